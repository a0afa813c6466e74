/** For each promise of ../shared/DOC.md: ordinary calls, edges, and refusals in their order. */
public final class PromisesTest {

    private static final int LEAST = Integer.MIN_VALUE;
    private static final int GREATEST = Integer.MAX_VALUE;
    private static final long LONG_WIDE = 4000000000000000000L;

    private static int wrong = 0;
    private static String promise = "";

    private static void due(String call, long got, long want) {
        if (got != want) {
            wrong++;
            System.out.println(promise + ": " + call + " answered " + got + ", due is " + want);
        }
    }

    private static int tell(CarriedHome x, String text) {
        for (int i = 0; i < text.length(); i++) {
            x.feed(text.charAt(i));
        }
        return x.reign();
    }

    private static void reigns(String text, int want) {
        due("reign of \"" + text + "\"", tell(new CarriedHome(), text), want);
    }

    private static CarriedHome told(String text) {
        CarriedHome x = new CarriedHome();
        int answer = tell(x, text);
        if (answer < 0) {
            due("reign of \"" + text + "\"", answer, 1);
        }
        return x;
    }

    private static void rowOf(CarriedHome x, int... numbers) {
        x.clear();
        for (int v : numbers) {
            x.row(v);
        }
    }

    /** How many refusals there were, -1 first. */
    private static void refused(CarriedHome x, int nobody, int other, int state, int below, int room) {
        due("count(11)", x.count(11), nobody);
        due("count(12)", x.count(12), other);
        due("count(13)", x.count(13), state);
        due("count(14)", x.count(14), below);
        due("count(15)", x.count(15), 0);
        due("count(16)", x.count(16), room);
    }

    private static void newObject() {
        promise = "promise 1";
        CarriedHome x = new CarriedHome();
        int[] counts = {0, 0, 0, 12, 0, 0, 0, 0, 0, 0, -9, 0, 0, 0, 0, 0, 0, -9};
        for (int what = 0; what < counts.length; what++) {
            due("count(" + what + ")", x.count(what), counts[what]);
        }
        for (int s = 0; s < 12; s++) {
            due("slope(" + s + ")", x.slope(s), 1);
        }
        due("manOf(0, 0)", x.manOf(0, 0), -1);
        due("restore()", x.restore(), -3);
        due("back()", x.back(), -3);
    }

    private static void feed() {
        promise = "promise 2";
        CarriedHome x = new CarriedHome();
        due("feed(0)", x.feed(0), 1);
        due("feed(255)", x.feed(255), 2);
        due("feed(256)", x.feed(256), -6);
        due("feed(greatest)", x.feed(GREATEST), -6);
        due("feed(-1)", x.feed(-1), -4);
        due("feed(least)", x.feed(LEAST), -4);
        for (int i = 3; i <= 96; i++) {
            due("feed(100)", x.feed(100), i);
        }
        due("feed(100)", x.feed(100), -6);
        due("feed(-1) of a full one", x.feed(-1), -4);
        due("count(7)", x.count(7), 96);
        refused(x, 0, 0, 0, 3, 3);
        due("reign()", x.reign(), -1000);
        due("count(7)", x.count(7), 0);
        due("feed(109)", x.feed(109), 1);
    }

    private static void reignsOfRightForm() {
        promise = "promise 3";
        CarriedHome x = new CarriedHome();
        due("reign", tell(x, "m27;m59;p0;s034;s110;l09;k05;w6;"), 8);
        due("count(7)", x.count(7), 0);
        due("count(0)", x.count(0), 2);
        due("manOf(0, 0)", x.manOf(0, 0), 2);
        due("manOf(0, 1)", x.manOf(0, 1), 7);
        due("manOf(1, 0)", x.manOf(1, 0), 5);
        due("manOf(1, 2)", x.manOf(1, 2), 0);
        due("count(5)", x.count(5), 1);
        due("slope(3)", x.slope(3), 4);
        due("slope(11)", x.slope(11), 0);
        due("count(3)", x.count(3), 9);
        due("count(2)", x.count(2), 5);
        due("count(4)", x.count(4), 6);
        due("reign", tell(x, "p0;p1;"), 2);
        due("count(5)", x.count(5), 2);
        due("reign", tell(x, "p1;p1;p0;p0;"), 4);
        due("count(5)", x.count(5), 2);
        due("reign", tell(x, "k00;w0;d02;"), 3);
        due("count(2)", x.count(2), 2);
        due("count(1)", x.count(1), 2);
        due("manOf(1, 3)", x.manOf(1, 3), 2);
        due("reign", tell(x, "k12;l60;d01;"), 3);
        due("count(2)", x.count(2), 12);
        due("count(1)", x.count(1), 3);
        reigns("d60;", 1);
        reigns("l01;", 1);
        reigns("w9;", 1);
        reigns("m00;m10;m20;m30;m40;m50;m09;m19;", 8);
        reigns("d60;d60;d60;d60;d60;d60;d60;d60;d60;d60;d60;d60;d60;d60;d60;d60;d39;", 17);
        refused(x, 0, 0, 0, 0, 0);
    }

    private static void reignsOfWrongForm() {
        promise = "promise 3, kind 1";
        reigns("", -1000);
        reigns("x", -1000);
        reigns(";", -1000);
        reigns("M04;", -1000);
        reigns("m", -1001);
        reigns("m0", -1002);
        reigns("m04", -1003);
        reigns("m04p", -1003);
        reigns("m0a;", -1002);
        reigns("m0;", -1002);
        reigns("m045;", -1003);
        reigns("m04;;", -1004);
        reigns("m04;p", -1005);
        reigns("m04;p0", -1006);
        reigns("m04;p00;", -1006);
        reigns("s01;", -1003);
        reigns("s01/;", -1003);
        reigns("s01:;", -1003);
        reigns("s0122", -1004);
        reigns("l5;", -1002);
        reigns("k5;", -1002);
        reigns("w12;", -1002);
        reigns("d1;", -1002);
        reigns("d001;", -1003);
        reigns("m90;p9;x", -1007);
        reigns("m04;m04;m04;m04;m04;m04;m04;m04;m04;m04;m04;m04;m04;m04;m04;m04;"
                + "m04;m04;m04;m04;m04;m04;m04;m04", -1095);
        reigns("p0;m04;m04;m04;m04;m04;m04;m04;m04;m04;m04;m04;m04;m04;m04;m04;"
                + "m04;m04;m04;m04;m04;m04;m04;m04;m", -1096);
        CarriedHome x = told("m04;");
        x.loads(5);
        due("reign", tell(x, "l07;x"), -1004);
        due("count(3)", x.count(3), 5);
        due("count(7)", x.count(7), 0);
        due("count(9)", x.count(9), 1);
        refused(x, 0, 0, 0, 0, 0);
    }

    private static void reignsThatCannotBe() {
        promise = "promise 3, kind 2";
        reigns("m60;", -2000);
        reigns("m04;m91;", -2004);
        reigns("p0;", -2000);
        reigns("m04;p1;", -2004);
        reigns("p0;m04;", -2000);
        reigns("m04;m04;m04;m04;m04;m04;m04;m04;m04;", -2032);
        reigns("s120;", -2000);
        reigns("s990;", -2000);
        reigns("l00;", -2000);
        reigns("l61;", -2000);
        reigns("k13;", -2000);
        reigns("k12;", 1);
        reigns("d00;", -2000);
        reigns("d61;", -2000);
        reigns("l09;l10;d60;d60;k20;l00;", -2016);
        reigns("d60;d60;d60;d60;d60;d60;d60;d60;d60;d60;d60;d60;d60;d60;d60;d60;d40;", -2064);
        // A FORGER of slopes 1 is worn 3 a day and lasts 5.
        reigns("m30;p0;l01;d01;p0;", 5);
        reigns("m30;p0;l01;s000;s010;d02;p0;", 7);
        reigns("m39;p0;l01;d01;p0;p0;d01;p0;", -2025);
        CarriedHome x = told("m04;");
        x.loads(5);
        due("reign", tell(x, "l07;s050;w3;k04;m11;p0;d05;p9;"), -2027);
        due("count(0)", x.count(0), 1);
        due("count(1)", x.count(1), 0);
        due("count(2)", x.count(2), 0);
        due("count(3)", x.count(3), 5);
        due("count(4)", x.count(4), 0);
        due("count(5)", x.count(5), 0);
        due("count(7)", x.count(7), 0);
        due("slope(5)", x.slope(5), 1);
        due("count(9)", x.count(9), 1);
        refused(x, 0, 0, 0, 0, 0);
        due("reign", tell(x, "w1;"), 1);
        due("count(9)", x.count(9), 0);
    }

    private static void manOf() {
        promise = "promise 4";
        CarriedHome x = told("m07;m17;m27;m37;m47;m57;m00;m30;p0;p1;p2;p3;p4;p5;p6;p7;");
        int[] bears = {6, 5, 13, 2, 15, 15, 3, 1};
        int[] lasts = {12, 15, 19, 5, 19, 38, 12, 5};
        int[] kinds = {0, 1, 2, 3, 4, 5, 0, 3};
        int[] figures = {7, 7, 7, 7, 7, 7, 0, 0};
        for (int m = 0; m < 8; m++) {
            due("manOf(" + m + ", 0)", x.manOf(m, 0), kinds[m]);
            due("manOf(" + m + ", 1)", x.manOf(m, 1), figures[m]);
            due("manOf(" + m + ", 2)", x.manOf(m, 2), 1);
            due("manOf(" + m + ", 3)", x.manOf(m, 3), 0);
            due("manOf(" + m + ", 4)", x.manOf(m, 4), bears[m]);
            due("manOf(" + m + ", 5)", x.manOf(m, 5), lasts[m]);
        }
        due("manOf(8, 0)", x.manOf(8, 0), -1);
        due("manOf(-1, 9)", x.manOf(-1, 9), -1);
        due("manOf(least, 0)", x.manOf(LEAST, 0), -1);
        due("manOf(greatest, 0)", x.manOf(GREATEST, 0), -1);
        due("manOf(0, 6)", x.manOf(0, 6), -2);
        due("manOf(0, -1)", x.manOf(0, -1), -2);
        refused(x, 4, 2, 0, 0, 0);
        // A SILENT one bears half from WORN 10 on: 18, then 9.
        CarriedHome silent = told("m59;p0;l09;d09;");
        due("manOf(0, 3)", silent.manOf(0, 3), 9);
        due("manOf(0, 4)", silent.manOf(0, 4), 18);
        silent.days(1);
        due("manOf(0, 3)", silent.manOf(0, 3), 10);
        due("manOf(0, 4)", silent.manOf(0, 4), 9);
        due("manOf(0, 5)", silent.manOf(0, 5), 42);
        CarriedHome dead = told("m30;p0;l01;s000;s010;s020;d03;");
        due("manOf(0, 2)", dead.manOf(0, 2), 2);
        due("manOf(0, 3)", dead.manOf(0, 3), 6);
    }

    /** What a day of bearing wears each kind, on slopes 3 and 0. */
    private static void wearsOfKinds() {
        promise = "WEARS";
        int[] onThree = {4, 3, 2, 5, 2, 1};
        int[] onNought = {1, 0, 0, 2, 0, 1};
        for (int kind = 0; kind < 6; kind++) {
            CarriedHome x = new CarriedHome();
            x.man(kind, 9);
            x.pardons(0);
            x.loads(1);
            x.slopes(0, kind == 3 ? 2 : 3);
            x.slopes(1, 0);
            due("days(1) of kind " + kind, x.days(1), 1);
            due("WORN of kind " + kind, x.manOf(0, 3), kind == 3 ? 4 : onThree[kind]);
            due("days(1) of kind " + kind, x.days(1), 2);
            due("WORN of kind " + kind, x.manOf(0, 3), (kind == 3 ? 4 : onThree[kind]) + onNought[kind]);
        }
        // FEUDISTS who bear with another FEUDIST or a SILENT one are not worn.
        CarriedHome feud = told("m40;m40;p0;p1;l08;s013;d01;");
        due("WORN", feud.manOf(0, 3) * 100 + feud.manOf(1, 3), 0);
        due("count(2)", feud.count(2), 1);
        // 5 and 5 for 8 and 3: too little.
        feud.days(1);
        due("count(2)", feud.count(2), 1);
        feud.loads(7);
        feud.days(1);
        due("WORN", feud.manOf(0, 3) * 100 + feud.manOf(1, 3), 0);
        CarriedHome mixed = told("m40;m50;p0;p1;l07;s003;d01;");
        due("WORN", mixed.manOf(0, 3) * 100 + mixed.manOf(1, 3), 1);
        CarriedHome killers = told("m40;m20;p0;p1;l05;s003;d01;");
        due("WORN", killers.manOf(0, 3) * 100 + killers.manOf(1, 3), 202);
        // The other FEUDIST is pardoned, but does not bear.
        CarriedHome alone = told("m41;m40;p0;p1;l03;s003;d01;");
        due("WORN", alone.manOf(0, 3) * 100 + alone.manOf(1, 3), 200);
    }

    private static void slope() {
        promise = "promise 5";
        CarriedHome x = told("s009;s114;");
        due("slope(0)", x.slope(0), 9);
        due("slope(1)", x.slope(1), 1);
        due("slope(11)", x.slope(11), 4);
        due("slope(12)", x.slope(12), -1);
        due("slope(-1)", x.slope(-1), -1);
        due("slope(least)", x.slope(LEAST), -1);
        refused(x, 3, 0, 0, 0, 0);
    }

    private static void man() {
        promise = "promise 6";
        CarriedHome x = new CarriedHome();
        x.loads(5);
        due("man(6, 3)", x.man(6, 3), -2);
        due("man(-1, -1)", x.man(-1, -1), -2);
        due("man(0, -1)", x.man(0, -1), -4);
        due("man(0, 10)", x.man(0, 10), -6);
        due("count(9)", x.count(9), 1);
        due("man(5, 9)", x.man(5, 9), 0);
        due("count(9)", x.count(9), 0);
        for (int m = 1; m < 8; m++) {
            due("man(0, 0)", x.man(0, 0), m);
        }
        x.loads(6);
        due("man(0, 0)", x.man(0, 0), -6);
        due("man(6, 0)", x.man(6, 0), -2);
        due("man(0, -1)", x.man(0, -1), -4);
        due("count(9)", x.count(9), 1);
        due("count(0)", x.count(0), 8);
        due("count(5)", x.count(5), 0);
        due("manOf(0, 0)", x.manOf(0, 0), 5);
        due("manOf(0, 1)", x.manOf(0, 1), 9);
        due("manOf(7, 2)", x.manOf(7, 2), 0);
        refused(x, 0, 3, 0, 2, 2);
    }

    private static void pardons() {
        promise = "promise 7";
        CarriedHome x = told("m30;m04;");
        due("pardons(1)", x.pardons(1), 1);
        due("count(5)", x.count(5), 2);
        due("pardons(1)", x.pardons(1), 0);
        due("count(5)", x.count(5), 0);
        due("pardons(2)", x.pardons(2), -1);
        due("pardons(-1)", x.pardons(-1), -1);
        due("pardons(0)", x.pardons(0), 1);
        tell(x, "l01;s000;s010;s020;d03;");
        due("count(6)", x.count(6), 1);
        due("pardons(0)", x.pardons(0), -3);
        due("count(5)", x.count(5), 0);
        due("count(9)", x.count(9), 0);
        refused(x, 2, 0, 1, 0, 0);
    }

    private static void slopes() {
        promise = "promise 8";
        CarriedHome x = new CarriedHome();
        due("slopes(4, 9)", x.slopes(4, 9), 1);
        due("slopes(4, 0)", x.slopes(4, 0), 9);
        due("slope(4)", x.slope(4), 0);
        due("slopes(12, -1)", x.slopes(12, -1), -1);
        due("slopes(-1, 10)", x.slopes(-1, 10), -1);
        due("slopes(0, -1)", x.slopes(0, -1), -4);
        due("slopes(0, 10)", x.slopes(0, 10), -6);
        due("slope(0)", x.slope(0), 1);
        due("count(9)", x.count(9), 2);
        refused(x, 2, 0, 0, 1, 1);
    }

    private static void loads() {
        promise = "promise 9";
        CarriedHome x = new CarriedHome();
        due("loads(1)", x.loads(1), 12);
        due("loads(60)", x.loads(60), 1);
        due("loads(0)", x.loads(0), -4);
        due("loads(61)", x.loads(61), -6);
        due("loads(least)", x.loads(LEAST), -4);
        due("count(3)", x.count(3), 60);
        due("count(9)", x.count(9), 2);
        refused(x, 0, 0, 0, 2, 1);
    }

    private static void snows() {
        promise = "promise 10";
        CarriedHome x = new CarriedHome();
        x.loads(5);
        due("snows(-1)", x.snows(-1), -4);
        due("snows(10)", x.snows(10), -6);
        due("count(9)", x.count(9), 1);
        due("snows(9)", x.snows(9), 0);
        due("count(9)", x.count(9), 0);
        due("snows(0)", x.snows(0), 9);
        due("count(4)", x.count(4), 0);
        refused(x, 0, 0, 0, 1, 1);
    }

    private static void days() {
        promise = "promise 11";
        CarriedHome x = told("m49;p0;w5;");
        due("days(0)", x.days(0), -4);
        due("days(-5)", x.days(-5), -4);
        due("days(61)", x.days(61), -6);
        due("count(9)", x.count(9), 0);
        // 18 for 12, 1 and 5 of snow.
        due("days(3)", x.days(3), 3);
        due("count(1)", x.count(1), 3);
        due("count(4)", x.count(4), 2);
        due("manOf(0, 3)", x.manOf(0, 3), 3);
        due("days(60)", x.days(60), 12);
        due("count(1)", x.count(1), 63);
        due("manOf(0, 3)", x.manOf(0, 3), 12);
        due("count(4)", x.count(4), 0);
        refused(x, 0, 0, 0, 2, 1);
        // He waits while the snow goes; at home it stays.
        CarriedHome y = told("m49;p0;w8;");
        due("days(2)", y.days(2), 0);
        due("count(4)", y.count(4), 6);
        due("days(1)", y.days(1), 0);
        due("days(1)", y.days(1), 1);
        tell(y, "k12;w7;");
        due("days(5)", y.days(5), 12);
        due("count(4)", y.count(4), 7);
        due("count(1)", y.count(1), 9);
        CarriedHome z = new CarriedHome();
        for (int i = 0; i < 16; i++) {
            z.days(60);
        }
        due("days(40)", z.days(40), -6);
        due("days(39)", z.days(39), 0);
        due("days(1)", z.days(1), -6);
        due("days(0)", z.days(0), -4);
        due("count(1)", z.count(1), 999);
        refused(z, 0, 0, 0, 1, 2);
    }

    /** Which bear: the strongest first, alike the least number, no more than are needed. */
    private static void bearers() {
        promise = "BEARERS";
        CarriedHome x = told("m04;m14;m06;m04;p0;p1;p2;p3;l09;");
        // They bear 5, 4, 6, 5 of 10.
        due("home(1)", x.home(1), 5);
        x.loads(5);
        due("home(1)", x.home(1), 4);
        x.loads(10);
        due("home(1)", x.home(1), 5);
        x.loads(11);
        due("home(1)", x.home(1), 13);
        x.loads(16);
        due("home(1)", x.home(1), 15);
        x.loads(19);
        due("home(1)", x.home(1), 15);
        x.loads(20);
        due("home(1)", x.home(1), 0);
        x.loads(9);
        x.pardons(2);
        due("home(1)", x.home(1), 9);
        x.days(1);
        due("WORN", x.manOf(0, 3) * 1000 + x.manOf(1, 3) * 100 + x.manOf(2, 3) * 10 + x.manOf(3, 3), 2002);
        // A MAN is worn 2 a day and lasts 12: it is his sixth day.
        CarriedHome y = told("m09;p0;l06;d05;");
        due("count(6)", y.count(6), 0);
        due("days(1)", y.days(1), 6);
        due("count(6)", y.count(6), 1);
        due("count(5)", y.count(5), 0);
        due("days(1)", y.days(1), 6);
        due("manOf(0, 3)", y.manOf(0, 3), 12);
    }

    private static void back() {
        promise = "promise 12";
        CarriedHome x = told("m30;p0;l01;s000;s010;s020;w1;");
        due("back()", x.back(), -3);
        x.slopes(7, 8);
        x.loads(2);
        x.pardons(0);
        x.pardons(0);
        x.days(5);
        due("count(2)", x.count(2), 0);
        x.loads(1);
        x.days(3);
        due("count(2)", x.count(2), 3);
        due("count(6)", x.count(6), 1);
        x.slopes(7, 8);
        due("count(9)", x.count(9), 8);
        due("back()", x.back(), 7);
        due("slope(7)", x.slope(7), 8);
        due("back()", x.back(), 6);
        due("count(2)", x.count(2), 0);
        due("count(6)", x.count(6), 0);
        due("count(5)", x.count(5), 1);
        due("count(1)", x.count(1), 5);
        due("manOf(0, 3)", x.manOf(0, 3), 0);
        due("back()", x.back(), 5);
        due("count(3)", x.count(3), 2);
        due("back()", x.back(), 4);
        due("count(1)", x.count(1), 0);
        due("count(4)", x.count(4), 1);
        due("back()", x.back(), 3);
        due("count(5)", x.count(5), 0);
        due("back()", x.back(), 2);
        due("count(5)", x.count(5), 1);
        due("back()", x.back(), 1);
        due("count(3)", x.count(3), 1);
        due("back()", x.back(), 0);
        due("slope(7)", x.slope(7), 1);
        due("back()", x.back(), -3);
        refused(x, 0, 0, 2, 0, 0);
        CarriedHome y = new CarriedHome();
        for (int v = 1; v <= 10; v++) {
            y.loads(v);
        }
        due("count(9)", y.count(9), 8);
        for (int left = 7; left >= 0; left--) {
            due("back()", y.back(), left);
            due("count(3)", y.count(3), left + 2);
        }
        due("back()", y.back(), -3);
        y.loads(30);
        y.image();
        due("count(9)", y.count(9), 1);
        y.restore();
        due("count(9)", y.count(9), 0);
        y.loads(31);
        y.loads(99);
        y.snows(99);
        y.man(9, 9);
        due("count(9)", y.count(9), 1);
        y.man(0, 0);
        due("back()", y.back(), -3);
        // A row, letters and refusals are not taken back.
        y.loads(32);
        y.row(5);
        y.feed(100);
        due("back()", y.back(), 0);
        due("count(8)", y.count(8), 1);
        due("count(7)", y.count(7), 1);
    }

    private static void then() {
        promise = "promise 13";
        // Two MEN of 7 for 12 and 1: each is worn 2 a day, lasts 12: they die behind 6 days.
        CarriedHome x = told("m09;m09;p0;p1;w2;");
        due("then(0, 0)", x.then(0, 0), 0);
        due("then(1, 2)", x.then(1, 2), 1);
        due("then(7, 0)", x.then(7, 0), 6);
        due("then(6, 1)", x.then(6, 1), 0);
        due("then(7, 1)", x.then(7, 1), 3);
        due("then(60, 0)", x.then(60, 0), 6);
        due("then(60, 2)", x.then(60, 2), 54);
        due("then(-1, 5)", x.then(-1, 5), -4);
        due("then(61, 5)", x.then(61, 5), -6);
        due("then(0, 3)", x.then(0, 3), -2);
        due("then(0, -1)", x.then(0, -1), -2);
        due("count(1)", x.count(1), 0);
        due("count(2)", x.count(2), 0);
        refused(x, 0, 2, 0, 1, 1);
        CarriedHome y = told("m49;p0;k10;");
        due("then(60, 0)", y.then(60, 0), 12);
        due("then(60, 2)", y.then(60, 2), 0);
    }

    private static void wornIn() {
        promise = "promise 14";
        CarriedHome x = told("m09;m49;p0;p1;l20;");
        due("wornIn(0, 0)", x.wornIn(0, 0), 0);
        due("wornIn(0, 4)", x.wornIn(0, 4), 8);
        due("wornIn(1, 4)", x.wornIn(1, 4), 4);
        due("wornIn(0, 60)", x.wornIn(0, 60), 12);
        due("wornIn(1, 60)", x.wornIn(1, 60), 6);
        due("wornIn(2, -1)", x.wornIn(2, -1), -1);
        due("wornIn(-1, 0)", x.wornIn(-1, 0), -1);
        due("wornIn(0, -1)", x.wornIn(0, -1), -4);
        due("wornIn(0, 61)", x.wornIn(0, 61), -6);
        refused(x, 2, 0, 0, 1, 1);
    }

    private static void home() {
        promise = "promise 15";
        CarriedHome x = told("m49;p0;w7;");
        // 18 is too little for 12, 1 and 7 or 6 of snow.
        due("home(0)", x.home(0), 14);
        due("home(1)", x.home(1), 0);
        due("home(2)", x.home(2), -2);
        due("home(-1)", x.home(-1), -2);
        due("home(0) without bearers", told("m49;").home(0), -9);
        refused(x, 0, 2, 0, 0, 0);
        CarriedHome y = told("m49;p0;");
        due("home(1)", y.home(1), 1);
        tell(y, "k12;");
        due("home(0)", y.home(0), 0);
        due("home(1)", y.home(1), 0);
    }

    private static void dies() {
        promise = "promise 16";
        // MEN of 7, worn 2 a day, last 12; a FORGER of 3 is worn 3 a day and lasts 5.
        CarriedHome x = told("m09;m09;m39;m49;p0;p1;p2;l16;");
        due("dies(0)", x.dies(0), -9);
        due("dies(2)", x.dies(2), 2);
        due("dies(3)", x.dies(3), -9);
        due("dies(-1)", x.dies(-1), 2);
        x.pardons(2);
        x.loads(12);
        due("dies(0)", x.dies(0), 6);
        due("dies(1)", x.dies(1), 6);
        due("dies(-1)", x.dies(-1), 0);
        due("dies(2)", x.dies(2), -9);
        due("dies(4)", x.dies(4), -1);
        due("dies(-2)", x.dies(-2), -1);
        due("dies(least)", x.dies(LEAST), -1);
        x.days(6);
        due("dies(0)", x.dies(0), 0);
        due("dies(-1)", x.dies(-1), -9);
        refused(x, 3, 0, 0, 0, 0);
    }

    private static void mercy() {
        promise = "promise 17";
        CarriedHome x = told("m00;m09;m49;m49;m29;");
        due("mercy(0)", x.mercy(0), -9);
        due("mercy(5)", x.mercy(5), 2);
        x.loads(14);
        x.slopes(3, 5);
        // FEUDISTS bear 18 of 19 at stage 3; the KILLER 16.
        due("mercy(3)", x.mercy(3), 2);
        x.slopes(3, 3);
        x.slopes(0, 0);
        due("mercy(60)", x.mercy(60), 2);
        x.pardons(2);
        due("mercy(60)", x.mercy(60), -9);
        // 18 of 19 at stage 3: whoever comes does, the weakest of the least number.
        x.loads(16);
        due("mercy(60)", x.mercy(60), 0);
        x.loads(20);
        due("mercy(60)", x.mercy(60), 3);
        due("mercy(-1)", x.mercy(-1), -4);
        due("mercy(61)", x.mercy(61), -6);
        refused(x, 0, 0, 0, 1, 1);
        due("count(5)", x.count(5), 4);
    }

    private static void fewest() {
        promise = "promise 18";
        CarriedHome x = told("m09;m09;m29;m49;m59;");
        due("fewest(12)", x.fewest(12), 4);
        due("fewest(11)", x.fewest(11), -9);
        x.loads(16);
        // 16 of the KILLER is too little; 18 of the FEUDIST does.
        due("fewest(12)", x.fewest(12), 8);
        x.loads(18);
        due("fewest(12)", x.fewest(12), 12);
        x.pardons(3);
        due("fewest(12)", x.fewest(12), 4);
        x.pardons(4);
        due("fewest(12)", x.fewest(12), 0);
        due("fewest(60)", x.fewest(60), 0);
        due("fewest(-1)", x.fewest(-1), -4);
        due("fewest(61)", x.fewest(61), -6);
        refused(x, 0, 0, 0, 1, 1);
        due("count(5)", x.count(5), 24);
        // All eight: each MAN of 3 alone is nothing.
        CarriedHome y = told("m00;m00;m00;m00;m00;m00;m00;m00;l23;k11;");
        due("fewest(1)", y.fewest(1), 255);
        y.loads(20);
        due("fewest(1)", y.fewest(1), 127);
        tell(y, "k12;");
        due("fewest(0)", y.fewest(0), 0);
    }

    private static void crown() {
        promise = "promise 19";
        CarriedHome x = told("m49;p0;");
        due("crown(11)", x.crown(11), -9);
        due("crown(12)", x.crown(12), 17);
        x.slopes(11, 4);
        due("crown(12)", x.crown(12), 14);
        due("crown(60)", x.crown(60), 14);
        due("crown(-1)", x.crown(-1), -4);
        due("crown(61)", x.crown(61), -6);
        due("count(3)", x.count(3), 12);
        tell(x, "k12;");
        due("crown(0)", x.crown(0), 60);
        due("crown(1)", told("m10;p0;k11;").crown(1), 1);
        due("crown(1)", told("m30;p0;k11;").crown(1), -9);
        due("crown(1)", told("m30;p0;k11;s110;").crown(1), 1);
        refused(x, 0, 0, 0, 1, 1);
    }

    private static void dig() {
        promise = "promise 20";
        CarriedHome x = told("m49;p0;s059;s089;");
        due("dig(0)", x.dig(0), -9);
        due("dig(5)", x.dig(5), -9);
        due("dig(6)", x.dig(6), 5);
        due("dig(60)", x.dig(60), 5);
        x.slopes(5, 3);
        due("dig(60)", x.dig(60), 8);
        due("dig(-1)", x.dig(-1), -4);
        due("dig(61)", x.dig(61), -6);
        due("slope(8)", x.slope(8), 9);
        refused(x, 0, 0, 0, 1, 1);
        // A MAN for 7: 2 a day of 12. Each stage as 0 spares him 1; the least is told.
        CarriedHome y = told("m09;p0;l06;");
        due("then(60, 0)", y.then(60, 0), 6);
        due("dig(60)", y.dig(60), 0);
        y.days(1);
        due("dig(60)", y.dig(60), 1);
    }

    private static void keep() {
        promise = "promise 21";
        CarriedHome x = told("m49;m09;m09;m29;");
        due("keep(5, 0)", x.keep(5, 0), -9);
        due("keep(5, 1)", x.keep(5, 1), -9);
        tell(x, "p0;p1;p2;l16;");
        // Without 0 the others bear 14 of 17; without 1 or 2 he goes on as before.
        due("keep(5, 0)", x.keep(5, 0), 1);
        due("keep(5, 1)", x.keep(5, 1), 5);
        due("keep(0, 0)", x.keep(0, 0), 0);
        due("keep(0, 1)", x.keep(0, 1), 0);
        x.pardons(1);
        x.pardons(2);
        due("keep(9, 0)", x.keep(9, 0), 0);
        due("keep(9, 1)", x.keep(9, 1), 0);
        due("keep(-1, 2)", x.keep(-1, 2), -4);
        due("keep(61, 2)", x.keep(61, 2), -6);
        due("keep(60, 2)", x.keep(60, 2), -2);
        due("keep(60, -1)", x.keep(60, -1), -2);
        due("count(5)", x.count(5), 1);
        refused(x, 0, 2, 0, 1, 1);
    }

    private static void pairs() {
        promise = "promise 22";
        CarriedHome x = told("m04;m05;m04;m16;m17;m00;m06;p0;p1;p2;p3;p4;p5;");
        // 5, 5, 5, 5, 5, 3 are pardoned; 6 is not.
        due("pairs(0)", x.pairs(0), 2);
        due("pairs(1)", x.pairs(1), 7);
        due("pairs(2)", x.pairs(2), 0);
        due("pairs(3)", x.pairs(3), 15);
        x.pardons(1);
        due("pairs(0)", x.pairs(0), 2);
        due("pairs(1)", x.pairs(1), 13);
        x.loads(20);
        due("pairs(1)", x.pairs(1), 61);
        x.snows(3);
        due("pairs(1)", x.pairs(1), -9);
        due("pairs(3)", x.pairs(3), -1);
        tell(x, "k12;");
        due("pairs(3)", x.pairs(3), 0);
        due("pairs(1)", x.pairs(1), 61);
        due("pairs(4)", x.pairs(4), 1000000002);
        due("pairs(-1)", x.pairs(-1), 1000000002);
        refused(x, 0, 2, 0, 0, 0);
        CarriedHome y = told("m04;m05;m49;m16;p0;p1;p2;p3;l22;d01;");
        // 18 and the first of 5 bear 23; then the one of 5 is condemned again.
        due("pairs(2)", y.pairs(2), 2);
        y.pardons(0);
        due("pairs(2)", y.pairs(2), 1);
        due("pairs(0)", y.pairs(0), 1);
        // The fewest men, though a set of more men is of less bits.
        CarriedHome few = told("m00;m00;m00;m29;m00;m00;m00;m00;p0;p1;p2;p3;p4;p5;p6;p7;l08;");
        due("pairs(1)", few.pairs(1), 8);
        few.loads(36);
        due("pairs(1)", few.pairs(1), 255);
        few.loads(37);
        due("pairs(1)", few.pairs(1), -9);
        // Of the same size the least set, not the strongest.
        CarriedHome z = told("m00;m04;m06;m06;p0;p1;p2;p3;l09;");
        due("pairs(1)", z.pairs(1), 6);
    }

    private static void whoBore() {
        promise = "promise 23";
        CarriedHome x = told("m49;m09;m49;m29;m09;p1;");
        due("whoBore() of no row", x.whoBore(), 29);
        rowOf(x, 0, 1, 2);
        // 18 or 16 alone do for 13, the first MAN and another do, too.
        due("whoBore()", x.whoBore(), 29);
        rowOf(x, 0, 1, 2, 3, 4, 5, 6, 7);
        due("whoBore()", x.whoBore(), 13);
        rowOf(x, 0, 1, 2, 3, 4, 5, 6, 6);
        due("whoBore()", x.whoBore(), 16);
        due("count(8)", x.count(8), 8);
        rowOf(x, 1);
        due("whoBore()", x.whoBore(), 0);
        rowOf(x, 0, 0);
        due("whoBore()", x.whoBore(), 0);
        due("count(5)", x.count(5), 2);
        due("count(2)", x.count(2), 0);
    }

    private static void whatKind() {
        promise = "promise 24";
        CarriedHome x = told("m49;m04;p0;l03;");
        // A day of slope 1 wears MAN 2, THIEF 1, KILLER 1, FORGER 3, FEUDIST 1, SILENT 1.
        due("whatKind(0, 0) of no row", x.whatKind(0, 0), 63);
        due("whatKind(0, 1) of no row", x.whatKind(0, 1), 1023);
        rowOf(x, 0, 2);
        due("whatKind(0, 0)", x.whatKind(0, 0), 1);
        due("whatKind(0, 1)", x.whatKind(0, 1), 0);
        rowOf(x, 0, 1);
        due("whatKind(0, 0)", x.whatKind(0, 0), 54);
        rowOf(x, 0, 3);
        due("whatKind(0, 0)", x.whatKind(0, 0), 0);
        x.loads(2);
        due("whatKind(0, 0)", x.whatKind(0, 0), 8);
        rowOf(x, 0, 0, 0);
        due("whatKind(1, 0)", x.whatKind(1, 0), 63);
        due("whatKind(1, 1)", x.whatKind(1, 1), 1023);
        due("whatKind(0, 0)", x.whatKind(0, 0), 0);
        rowOf(x, 1);
        due("whatKind(0, 1)", x.whatKind(0, 1), 0);
        x.loads(12);
        rowOf(x, 0, 1);
        // A FEUDIST of 6, 7, 8, 9 bears 14, 15, 17, 18; of 5 he bears 12.
        due("whatKind(0, 1)", x.whatKind(0, 1), 960);
        rowOf(x, 0, 0);
        due("whatKind(0, 1)", x.whatKind(0, 1), 63);
        due("count(8)", x.count(8), 2);
        // WORN 6 he would be dead as a FORGER behind the first day, though he did not bear on it.
        CarriedHome y = told("m49;m59;p0;l12;d06;p1;s078;");
        rowOf(y, 6, 6, 6);
        due("whatKind(0, 0)", y.whatKind(0, 0), 8);
        due("whatKind(2, 2)", x.whatKind(2, 2), -1);
        due("whatKind(-1, 0)", x.whatKind(-1, 0), -1);
        due("whatKind(0, 2)", x.whatKind(0, 2), -2);
        due("whatKind(0, -1)", x.whatKind(0, -1), -2);
        due("manOf(0, 0)", x.manOf(0, 0), 4);
        due("manOf(0, 1)", x.manOf(0, 1), 9);
        refused(x, 2, 2, 0, 0, 0);
    }

    private static void two() {
        promise = "promise 25";
        CarriedHome x = told("m49;m49;m00;");
        // Who bears alone all the way is worn 12 at home: 3 less 3.
        due("two(0, 1, 12)", x.two(0, 1, 12), 0);
        tell(x, "s000;s010;s020;s030;s040;");
        // He is worn 7: 3 less 1 is more than nothing.
        due("two(0, 1, 12)", x.two(0, 1, 12), 1);
        due("two(0, 1, 11)", x.two(0, 1, 11), 0);
        due("two(0, 1, 0)", x.two(0, 1, 0), 0);
        // Worn 9 he has 3 less 2, which is still more than nothing.
        due("two(0, 1, 12)", told("m49;m49;s000;s010;s020;").two(0, 1, 12), 1);
        // Neither of two MEN does it alone, both do.
        due("two(0, 1, 5)", told("m09;m09;k11;").two(0, 1, 5), 0);
        // Who bears already has no say; he is worn whatever the two choose.
        due("two(1, 2, 12)", told("m49;m00;m00;p0;").two(1, 2, 12), 0);
        due("two(0, 2, 12)", x.two(0, 2, 12), 10);
        due("two(2, 0, 12)", x.two(2, 0, 12), 1);
        due("two(0, 0, -1)", x.two(0, 0, -1), -1);
        due("two(3, 0, 5)", x.two(3, 0, 5), -1);
        due("two(0, 3, 5)", x.two(0, 3, 5), -1);
        due("two(-1, 0, 5)", x.two(-1, 0, 5), -1);
        x.pardons(1);
        due("two(0, 1, -1)", x.two(0, 1, -1), -4);
        due("two(0, 1, 61)", x.two(0, 1, 61), -6);
        due("two(0, 1, 5)", x.two(0, 1, 5), -3);
        due("two(1, 0, 5)", x.two(1, 0, 5), -3);
        refused(x, 4, 0, 2, 1, 1);
        due("two(0, 2, 60)", x.two(0, 2, 60), 0);
        due("count(5)", x.count(5), 2);
    }

    private static void falls() {
        promise = "promise 26";
        CarriedHome x = told("m49;p0;");
        // 18 bears snow to 5: 4, and then 3 and 4, is too much.
        fraction(x, 0, 2, 0, 1, 1);
        fraction(x, 0, 2, 1, 0, 1);
        fraction(x, 1, 2, 1, 1, 1);
        fraction(x, 2, 2, 2, 3, 4);
        fraction(x, 2, 3, 2, 8, 9);
        fraction(x, 2, 20, 2, 399, 400);
        fraction(x, 2, 2, 3, 0, 1);
        fraction(x, 7, 20, 0, 1, 1);
        // Of three days only: no two falls one behind the other; first and third: 4, 3, 2 and 4.
        fraction(x, 3, 2, 3, 1, 2);
        fraction(x, 3, 3, 3, 20, 27);
        due("falls(-1, 21, 13, 2)", x.falls(-1, 21, 13, 2), LONG_WIDE + 4);
        due("falls(8, 1, 13, 2)", x.falls(8, 1, 13, 2), LONG_WIDE + 4);
        due("falls(8, 2, -1, 2)", x.falls(8, 2, -1, 2), LONG_WIDE + 4);
        due("falls(8, 2, 0, 2)", x.falls(8, 2, 0, 2), LONG_WIDE + 6);
        due("falls(7, 21, 0, 2)", x.falls(7, 21, 0, 2), LONG_WIDE + 6);
        due("falls(7, 20, 13, 2)", x.falls(7, 20, 13, 2), LONG_WIDE + 6);
        due("falls(7, 20, 12, 2)", x.falls(7, 20, 12, 2), LONG_WIDE + 2);
        due("falls(7, 20, 12, -1)", x.falls(7, 20, 12, -1), LONG_WIDE + 2);
        due("count(4)", x.count(4), 0);
        refused(x, 0, 2, 0, 3, 3);
        // Snow is 9 at most.
        CarriedHome y = told("m49;p0;l08;w7;");
        fraction(y, 1, 5, 1, 1, 1);
        y.loads(9);
        fraction(y, 1, 5, 1, 4, 5);
        tell(y, "k12;");
        fraction(y, 7, 5, 12, 1, 1);
    }

    private static void fraction(CarriedHome x, int n, int t, int v, long above, long below) {
        due("falls(" + n + ", " + t + ", " + v + ", 0)", x.falls(n, t, v, 0), above);
        due("falls(" + n + ", " + t + ", " + v + ", 1)", x.falls(n, t, v, 1), below);
    }

    private static void shares() {
        promise = "promise 27";
        CarriedHome x = told("l10;s004;w3;");
        due("shares(1, 0)", x.shares(1, 0), 17);
        due("shares(1, 1)", x.shares(1, 1), 0);
        due("shares(9, 0)", x.shares(9, 0), 1);
        due("shares(9, 1)", x.shares(9, 1), 8);
        tell(x, "k12;");
        due("shares(5, 0)", x.shares(5, 0), 2);
        due("shares(5, 1)", x.shares(5, 1), 3);
        due("shares(0, 2)", x.shares(0, 2), -4);
        due("shares(-1, 0)", x.shares(-1, 0), -4);
        due("shares(10, 2)", x.shares(10, 2), -6);
        due("shares(9, 2)", x.shares(9, 2), -2);
        due("shares(9, -1)", x.shares(9, -1), -2);
        refused(x, 0, 2, 0, 2, 1);
    }

    private static void strongest() {
        promise = "promise 28";
        CarriedHome x = told("m49;m00;m04;m05;m16;p1;p2;p3;p4;s034;s074;s002;");
        due("strongest(0)", x.strongest(0), 2);
        due("strongest(1)", x.strongest(1), 3);
        due("strongest(2)", x.strongest(2), 12);
        due("strongest(3)", x.strongest(3), 1);
        x.pardons(0);
        due("strongest(0)", x.strongest(0), 0);
        due("strongest(3)", x.strongest(3), 0);
        x.slopes(1, 8);
        due("strongest(1)", x.strongest(1), 1);
        x.slopes(11, 9);
        due("strongest(1)", x.strongest(1), 11);
        x.slopes(0, 9);
        due("strongest(1)", x.strongest(1), 0);
        tell(x, "k05;");
        due("strongest(1)", x.strongest(1), 0);
        due("strongest(2)", x.strongest(2), 7);
        due("strongest(4)", x.strongest(4), -2);
        due("strongest(-1)", x.strongest(-1), -2);
        due("strongest(0) of none", told("m49;").strongest(0), -9);
        refused(x, 0, 2, 0, 0, 0);
        // A FORGER of 1 bears on slope 0 and, with the other, on slope 1; the first dies of it.
        CarriedHome y = told("m30;m30;m30;p0;p1;l01;s000;d02;");
        due("count(6)", y.count(6), 1);
        due("strongest(3)", y.strongest(3), 1);
        due("strongest(0)", y.strongest(0), 1);
    }

    private static void mean() {
        promise = "promise 29";
        CarriedHome x = told("s009;s115;");
        // 9, ten of 1, and 5.
        due("mean(0)", x.mean(0), 2);
        due("mean(1)", x.mean(1), 1);
        tell(x, "k02;");
        due("mean(0)", x.mean(0), 7);
        due("mean(1)", x.mean(1), 5);
        tell(x, "k11;s110;");
        due("mean(0)", x.mean(0), 0);
        due("mean(1)", x.mean(1), 1);
        tell(x, "k12;");
        due("mean(0)", x.mean(0), 0);
        due("mean(1)", x.mean(1), 1);
        due("mean(2)", x.mean(2), LONG_WIDE + 2);
        due("mean(-1)", x.mean(-1), LONG_WIDE + 2);
        refused(x, 0, 2, 0, 0, 0);
    }

    private static void spare() {
        promise = "promise 30";
        CarriedHome x = told("m09;m39;p0;");
        due("spare(0)", x.spare(0), 12);
        due("spare(1)", x.spare(1), 5);
        tell(x, "l06;d02;");
        due("spare(0)", x.spare(0), 8);
        tell(x, "p0;p1;l01;k00;s000;s010;s020;d03;");
        due("manOf(1, 3)", x.manOf(1, 3), 6);
        due("spare(1)", x.spare(1), 0);
        due("spare(2)", x.spare(2), -1);
        due("spare(-1)", x.spare(-1), -1);
        refused(x, 2, 0, 0, 0, 0);
    }

    private static void height() {
        promise = "promise 31";
        CarriedHome x = told("m49;p0;s047;s079;w9;");
        due("height(0)", x.height(0), 26);
        // 18 for 12 and 7: snow is not asked.
        due("height(1)", x.height(1), 4);
        due("height(2)", x.height(2), 52);
        tell(x, "k05;");
        due("height(0)", x.height(0), 15);
        due("height(1)", x.height(1), 7);
        tell(x, "k08;");
        due("height(0)", x.height(0), 4);
        due("height(1)", x.height(1), -9);
        // Snow 9, 8, 7, 6 is too much.
        due("height(2)", x.height(2), 4);
        tell(x, "k12;");
        due("height(0)", x.height(0), 0);
        due("height(1)", x.height(1), -9);
        due("height(2)", x.height(2), 0);
        due("height(3)", x.height(3), -2);
        due("height(-1)", x.height(-1), -2);
        refused(x, 0, 2, 0, 0, 0);
        CarriedHome even = told("m49;p0;l10;s068;s119;");
        due("height(1)", even.height(1), 11);
        due("height(1)", told("l01;").height(1), 0);
        // Waits of 2 and of 3 days: snow 7 and 6, then slope 7 with snow 4, 3 and 2.
        CarriedHome y = told("m49;p0;w7;s011;s025;");
        due("then(60, 2)", y.then(60, 2), 4);
        due("height(2)", y.height(2), 2);
    }

    private static void eased() {
        promise = "promise 32";
        CarriedHome x = told("m49;p0;w9;");
        due("eased(0)", x.eased(0), 0);
        due("eased(3)", x.eased(3), 3);
        due("eased(10)", x.eased(10), 4);
        due("eased(60)", x.eased(60), 0);
        due("eased(-1)", x.eased(-1), 1000000004);
        due("eased(61)", x.eased(61), 1000000006);
        due("count(4)", x.count(4), 9);
        refused(x, 0, 0, 0, 1, 1);
        // In snow the FEUDISTS bear together and are not worn; without it each bears four days alone.
        CarriedHome y = told("m43;m43;p0;p1;l01;w9;s008;s018;s028;s038;s048;s058;s068;s078;s088;s098;");
        tell(y, "s108;s118;");
        due("then(60, 0)", y.then(60, 0), 12);
        due("eased(60)", y.eased(60), -4);
        due("eased(12)", y.eased(12), -4);
        due("eased(8)", y.eased(8), 0);
    }

    private static void shoulders() {
        promise = "promise 33";
        CarriedHome x = told("m00;m10;m10;m50;m10;p0;p1;p4;p3;");
        due("shoulders(0)", x.shoulders(0), 1);
        due("shoulders(1)", x.shoulders(1), 2);
        due("shoulders(2)", x.shoulders(2), 0);
        due("shoulders(5)", x.shoulders(5), 1);
        due("shoulders(6)", x.shoulders(6), -2);
        due("shoulders(-1)", x.shoulders(-1), -2);
        refused(x, 0, 2, 0, 0, 0);
    }

    private static void row() {
        promise = "promise 34";
        CarriedHome x = new CarriedHome();
        due("row(-1)", x.row(-1), -4);
        due("row(100)", x.row(100), -6);
        for (int i = 1; i <= 12; i++) {
            due("row", x.row(i == 1 ? 0 : 99), i);
        }
        due("row(0)", x.row(0), -6);
        due("row(-1)", x.row(-1), -4);
        due("count(8)", x.count(8), 12);
        refused(x, 0, 0, 0, 2, 2);
    }

    private static void judge() {
        promise = "promise 35";
        CarriedHome x = told("m49;m09;p0;d03;");
        due("judge()", x.judge(), -9);
        rowOf(x, 3, 0);
        due("judge()", x.judge(), -9);
        due("count(8)", x.count(8), 0);
        rowOf(x, 3, 1);
        due("judge()", x.judge(), 1);
        due("count(8)", x.count(8), 0);
        rowOf(x, 2, 1);
        due("judge()", x.judge(), 0);
        rowOf(x, 3, 0, 0);
        due("judge()", x.judge(), 2);
        rowOf(x, 3);
        due("judge()", x.judge(), -9);
    }

    private static void clear() {
        promise = "promise 36";
        CarriedHome x = new CarriedHome();
        due("clear()", x.clear(), 0);
        x.row(4);
        x.row(5);
        due("clear()", x.clear(), 2);
        due("clear()", x.clear(), 0);
        due("row(7)", x.row(7), 1);
    }

    private static void lots() {
        promise = "promise 37";
        CarriedHome x = told("m09;m08;m49;p0;p1;p2;l11;w3;");
        int[] seeds = {0, 1, -1, 5, 77777, LEAST, GREATEST, -123456789};
        for (int z : seeds) {
            for (int n = 1; n <= 20; n += 19) {
                lotsByHand(x, n, z);
            }
        }
        CarriedHome dead = told("m30;m39;m49;m59;p0;l01;s000;s010;s020;d03;p1;p2;p3;l30;");
        due("count(6)", dead.count(6), 1);
        lotsByHand(dead, 3, 9);
        due("lots(0, 5, 2)", x.lots(0, 5, 2), -4);
        due("lots(-1, 5, 0)", x.lots(-1, 5, 0), -4);
        due("lots(21, 5, 2)", x.lots(21, 5, 2), -6);
        due("lots(20, 5, 2)", x.lots(20, 5, 2), -2);
        due("lots(20, 5, -1)", x.lots(20, 5, -1), -2);
        for (int s = 0; s < 12; s++) {
            due("slope(" + s + ")", x.slope(s), 1);
        }
        due("count(2)", x.count(2), 0);
        refused(x, 0, 2, 0, 2, 1);
        CarriedHome late = told("m49;m49;p0;p1;l27;w9;"); // two unworn FEUDISTS, who go on as the snow goes
        for (int z = 0; z < 8; z++) {
            lotsByHand(late, 20, z);
        }
        CarriedHome home = told("k12;");
        due("lots(20, 1, 0)", home.lots(20, 1, 0), 0);
    }

    /** The same reigns by slopes() and then(), on an object brought back by an image. */
    private static void lotsByHand(CarriedHome x, int n, int z) {
        int gone = 0;
        int dead = 0;
        int seed = z;
        int from = x.count(2);
        x.image();
        for (int i = 0; i < n; i++) {
            for (int s = 0; s < 12; s++) {
                seed = seed * 1103515245 + 12345;
                x.slopes(s, (seed & GREATEST) / 65536 % 10);
            }
            gone += x.then(15, 0) - from;
            dead += Integer.bitCount(x.then(15, 1));
            x.restore();
        }
        due("lots(" + n + ", " + z + ", 0)", x.lots(n, z, 0), gone);
        due("lots(" + n + ", " + z + ", 1)", x.lots(n, z, 1), dead);
    }

    private static void image() {
        promise = "promises 38 and 39";
        CarriedHome x = told("m49;m09;p0;w2;d03;");
        due("restore()", x.restore(), -3);
        due("image()", x.image(), 3);
        x.row(4);
        x.feed(100);
        x.days(4);
        x.loads(20);
        x.slopes(2, 7);
        x.pardons(0);
        x.man(3, 3);
        x.snows(8);
        x.loads(30);
        due("restore()", x.restore(), 3);
        due("count(0)", x.count(0), 2);
        due("count(1)", x.count(1), 3);
        due("count(2)", x.count(2), 3);
        due("count(3)", x.count(3), 12);
        due("count(4)", x.count(4), 0);
        due("count(5)", x.count(5), 1);
        due("count(7)", x.count(7), 1);
        due("count(8)", x.count(8), 1);
        due("count(9)", x.count(9), 0);
        due("slope(2)", x.slope(2), 1);
        due("manOf(0, 3)", x.manOf(0, 3), 3);
        x.days(60);
        due("restore()", x.restore(), 3);
        due("count(2)", x.count(2), 3);
        x.days(1);
        due("image()", x.image(), 4);
        due("count(9)", x.count(9), 1);
        x.days(7);
        due("restore()", x.restore(), 4);
        due("count(2)", x.count(2), 4);
        refused(x, 0, 0, 1, 0, 0);
    }

    private static void count() {
        promise = "promise 40";
        CarriedHome x = told("m49;m30;m09;p0;p1;l20;w0;s000;d02;");
        // A FORGER of 1 bears with the FEUDIST of 18? 19 of 20: nobody does.
        due("count(2)", x.count(2), 0);
        tell(x, "l19;s011;d03;");
        due("count(0)", x.count(0), 3);
        due("count(1)", x.count(1), 5);
        due("count(2)", x.count(2), 1);
        due("count(3)", x.count(3), 19);
        due("count(5)", x.count(5), 3);
        tell(x, "l18;s021;d01;");
        due("count(2)", x.count(2), 2);
        due("count(5)", x.count(5), 1);
        due("count(6)", x.count(6), 2);
        x.snows(7);
        due("count(4)", x.count(4), 7);
        due("count(10)", x.count(10), -9);
        due("count(17)", x.count(17), -9);
        due("count(-1)", x.count(-1), -9);
        due("count(least)", x.count(LEAST), -9);
        due("count(greatest)", x.count(GREATEST), -9);
        refused(x, 0, 0, 0, 0, 0);
    }

    public static void main(String[] args) {
        newObject();
        feed();
        reignsOfRightForm();
        reignsOfWrongForm();
        reignsThatCannotBe();
        manOf();
        wearsOfKinds();
        slope();
        man();
        pardons();
        slopes();
        loads();
        snows();
        days();
        bearers();
        back();
        then();
        wornIn();
        home();
        dies();
        mercy();
        fewest();
        crown();
        dig();
        keep();
        pairs();
        whoBore();
        whatKind();
        two();
        falls();
        shares();
        strongest();
        mean();
        spare();
        height();
        eased();
        shoulders();
        row();
        judge();
        clear();
        lots();
        image();
        count();
        System.out.println(wrong == 0 ? "all promises are kept" : wrong + " answers are not as due");
        if (wrong != 0) {
            System.exit(1);
        }
    }
}
