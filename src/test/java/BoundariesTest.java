import java.io.IOException;
import java.nio.file.Files;
import java.nio.file.Path;
import java.util.Arrays;

/**
 * Each sentence of ../shared/DOC.md that names a boundary case, in the document's order and by its own words:
 * what holds at the edge and just beside it. Refusals have a test of their own, RefusalsTest.
 */
public final class BoundariesTest {

    private static int wrong = 0;
    private static String document = "";
    private static String sentence = "";

    private static void fault(String what) {
        wrong++;
        System.out.println("\"" + sentence + "\": " + what);
    }

    /** What follows tests these words of the document. */
    private static void said(String words) {
        sentence = words;
        if (!document.contains(words)) {
            fault("the document does not say so");
        }
    }

    private static void due(String call, long got, long want) {
        if (got != want) {
            fault(call + " answered " + got + ", due is " + want);
        }
    }

    private static int tell(CarriedHome x, String text) {
        for (int i = 0; i < text.length(); i++) {
            x.feed(text.charAt(i));
        }
        return x.reign();
    }

    private static CarriedHome told(String text) {
        CarriedHome x = new CarriedHome();
        int answer = tell(x, text);
        if (answer < 1) {
            fault("no reign: " + text + ": " + answer);
        }
        return x;
    }

    private static void reigns(String text, int want) {
        due("reign of \"" + text + "\"", tell(new CarriedHome(), text), want);
    }

    private static CarriedHome rowOf(CarriedHome x, int... numbers) {
        x.clear();
        for (int v : numbers) {
            x.row(v);
        }
        return x;
    }

    private static String two(int number) {
        return (number < 10 ? "0" : "") + number;
    }

    /** The slopes of the first stages, in letters. */
    private static String slopesOf(int... slopes) {
        StringBuilder s = new StringBuilder();
        for (int i = 0; i < slopes.length; i++) {
            s.append('s').append(two(i)).append(slopes[i]).append(';');
        }
        return s.toString();
    }

    private static CarriedHome onDay(int day) {
        CarriedHome x = new CarriedHome();
        for (int left = day; left > 0; left -= 60) {
            x.days(Math.min(60, left));
        }
        return x;
    }

    // Terms.

    private static void terms() {
        said("STAGES 0 .. 11 of a road, of a SLOPE each (0 .. 9; 1 at first).");
        CarriedHome x = new CarriedHome();
        for (int s = 0; s < 12; s++) {
            due("slope(" + s + ")", x.slope(s), 1);
        }
        due("slope(12)", x.slope(12), -1);
        due("slope(-1)", x.slope(-1), -1);
        for (int s = 0; s < 12; s += 11) {
            due("slopes(" + s + ", 0)", x.slopes(s, 0), 1);
            due("slopes(" + s + ", 9)", x.slopes(s, 9), 0);
            due("slope(" + s + ")", x.slope(s), 9);
            due("slopes(" + s + ", -1)", x.slopes(s, -1), -4);
            due("slopes(" + s + ", 10)", x.slopes(s, 10), -6);
        }
        said("THE KING is at a STAGE (0 at first; 12 he is home), of a LOAD (1 .. 60; 12 at first).");
        due("count(2)", new CarriedHome().count(2), 0);
        due("home(0) at 11", told("m49;p0;k11;").home(0), 1);
        due("home(0) at 12", told("k12;").home(0), 0);
        due("home(0) at 11 without men", told("k11;").home(0), -9);
        x = new CarriedHome();
        due("loads(1)", x.loads(1), 12);
        due("loads(60)", x.loads(60), 1);
        due("loads(0)", x.loads(0), -4);
        due("loads(61)", x.loads(61), -6);
        due("count(3)", x.count(3), 60);
        said("MEN 0 .. as they come (8 at most)");
        for (int m = 0; m < 8; m++) {
            due("count(0)", x.count(0), m);
            due("man(0, 0)", x.man(0, 0), m);
        }
        due("man(0, 0)", x.man(0, 0), -6);
        due("count(0)", x.count(0), 8);
        due("manOf(7, 0)", x.manOf(7, 0), 0);
        due("manOf(8, 0)", x.manOf(8, 0), -1);
        said("a FIGURE (0 .. 9), CONDEMNED (at first), PARDONED or DEAD, WORN (0 .. 99; 0 at first).");
        x = new CarriedHome();
        due("man(0, -1)", x.man(0, -1), -4);
        due("man(0, 10)", x.man(0, 10), -6);
        due("man(0, 0)", x.man(0, 0), 0);
        due("man(0, 9)", x.man(0, 9), 1);
        due("manOf(0, 1)", x.manOf(0, 1), 0);
        due("manOf(1, 1)", x.manOf(1, 1), 9);
        due("manOf(1, 2)", x.manOf(1, 2), 0);
        due("manOf(1, 3)", x.manOf(1, 3), 0);
        said("SNOW (0 .. 9; 0 at first). DAY (0 .. 999; 0 at first).");
        due("snows(9)", x.snows(9), 0);
        due("snows(10)", x.snows(10), -6);
        due("snows(0)", x.snows(0), 9);
        due("snows(-1)", x.snows(-1), -4);
        due("count(1)", x.count(1), 0);
        x = onDay(998);
        due("days(1)", x.days(1), 0);
        due("count(1)", x.count(1), 999);
        due("days(1)", x.days(1), -6);
        due("count(1)", x.count(1), 999);
    }

    private static final int[][] BEARS = {
        {3, 3, 4, 4, 5, 5, 6, 6, 7, 7},
        {2, 2, 3, 3, 4, 4, 5, 5, 6, 6},
        {3, 4, 6, 7, 9, 10, 12, 13, 15, 16},
        {1, 1, 1, 1, 2, 2, 2, 2, 3, 3},
        {5, 6, 8, 9, 11, 12, 14, 15, 17, 18},
        {5, 6, 8, 9, 11, 12, 14, 15, 17, 18}};
    private static final int[] SILENT_BEARS_WORN = {2, 3, 4, 4, 5, 6, 7, 7, 8, 9};

    private static final int[][] WEARS = {
        {1, 2, 3, 4, 5, 6, 7, 8, 9, 10},
        {0, 1, 2, 3, 4, 5, 6, 7, 8, 9},
        {0, 1, 1, 2, 2, 3, 3, 4, 4, 5},
        {2, 3, 4, 5, 6, 7, 8, 9, 10, 11},
        {0, 1, 1, 2, 2, 3, 3, 4, 4, 5},
        {1, 1, 1, 1, 1, 1, 1, 1, 1, 1}};

    private static void bears() {
        said("MAN 3 plus half FIGURE, cut; THIEF 1 less; KILLER FIGURE more than a MAN; FORGER half of a THIEF's, "
                + "cut; FEUDIST 2 more than a KILLER;");
        for (int kind = 0; kind < 6; kind++) {
            for (int figure = 0; figure < 10; figure++) {
                CarriedHome x = told("m" + kind + figure + ";p0;");
                due("manOf(0, 4) of " + kind + figure, x.manOf(0, 4), BEARS[kind][figure]);
                due("pairs(3) of " + kind + figure, x.pairs(3), BEARS[kind][figure] - 13);
            }
        }
        said("SILENT a FEUDIST's, by 2, if WORN is 10 or more, cut.");
        for (int figure = 0; figure < 10; figure++) {
            CarriedHome x = told("m5" + figure + ";p0;l01;d09;");
            due("manOf(0, 3)", x.manOf(0, 3), 9);
            due("manOf(0, 4) of 5" + figure, x.manOf(0, 4), BEARS[5][figure]);
            x.days(1);
            due("manOf(0, 3)", x.manOf(0, 3), 10);
            due("manOf(0, 4) of 5" + figure, x.manOf(0, 4), SILENT_BEARS_WORN[figure]);
            x.days(1);
            due("manOf(0, 4) of 5" + figure, x.manOf(0, 4), SILENT_BEARS_WORN[figure]);
        }
        CarriedHome feudist = told("m49;p0;l01;d11;");
        due("manOf(0, 4) of a FEUDIST WORN 11", feudist.manOf(0, 4), 18);
    }

    private static void wears() {
        said("MAN SLOPE plus 1; THIEF SLOPE; KILLER half of a MAN's, cut; FORGER 2 more than a THIEF;");
        for (int kind = 0; kind < 6; kind++) {
            for (int slope = 0; slope < 10; slope++) {
                // A KILLER of 16 bears with him, so that a FORGER can be worn on a steep SLOPE.
                int load = BEARS[kind][9] + 16 - slope;
                CarriedHome x = told("m" + kind + "9;m29;p0;p1;s00" + slope + ";l" + two(load) + ";");
                due("home(1)", x.home(1), 3);
                x.days(1);
                due("WORN of kind " + kind + " on " + slope, x.manOf(0, 3), WEARS[kind][slope]);
            }
        }
        said("FEUDIST as a KILLER, 0 if another FEUDIST or SILENT one bears, too; SILENT 1.");
        wornOfTwo("m49;m49;p0;p1;s009;l27;d01;", 0, 0);
        wornOfTwo("m49;m59;p0;p1;s009;l27;d01;", 0, 1);
        wornOfTwo("m59;m49;p0;p1;s009;l27;d01;", 1, 0);
        wornOfTwo("m59;m59;p0;p1;s009;l27;d01;", 1, 1);
        wornOfTwo("m49;m29;p0;p1;s009;l25;d01;", 5, 5);
        wornOfTwo("m29;m29;p0;p1;s009;l23;d01;", 5, 5);
        // The other is PARDONED, but needs not bear; then he is only CONDEMNED.
        wornOfTwo("m49;m49;p0;p1;s009;l09;d01;", 5, 0);
        wornOfTwo("m49;m59;p0;p1;s009;l09;d01;", 5, 0);
        wornOfTwo("m49;m49;p0;s009;l09;d01;", 5, 0);
    }

    private static void wornOfTwo(String text, int one, int other) {
        CarriedHome x = told(text);
        due("WORN of 0 by " + text, x.manOf(0, 3), one);
        due("WORN of 1 by " + text, x.manOf(1, 3), other);
    }

    private static void lasts() {
        said("LASTS (WORN so much he is DEAD): MAN 12; THIEF 3 more; KILLER FIGURE and a MAN's; FORGER 5; "
                + "FEUDIST as a KILLER; SILENT twice a FEUDIST's.");
        for (int figure = 0; figure < 10; figure++) {
            int[] due = {12, 15, 12 + figure, 5, 12 + figure, 24 + 2 * figure};
            for (int kind = 0; kind < 6; kind++) {
                CarriedHome x = told("m" + kind + figure + ";p0;");
                due("manOf(0, 5) of " + kind + figure, x.manOf(0, 5), due[kind]);
                due("spare(0) of " + kind + figure, x.spare(0), due[kind]);
            }
        }
        // WORN one less he is alive, WORN so much he is DEAD, WORN one more he is DEAD.
        lives("m09;p0;l01;" + slopesOf(5, 4), 2, 11);
        dies("m09;p0;l01;" + slopesOf(5, 4, 0), 3, 12);
        dies("m09;p0;l01;" + slopesOf(5, 4, 1), 3, 13);
        lives("m19;p0;l01;" + slopesOf(5, 5, 4), 3, 14);
        dies("m19;p0;l01;" + slopesOf(5, 5, 5), 3, 15);
        dies("m19;p0;l01;" + slopesOf(5, 5, 4, 2), 4, 16);
        lives("m20;p0;l01;", 11, 11);
        dies("m20;p0;l01;", 12, 12);
        lives("m29;p0;l01;" + slopesOf(9, 9, 9, 9), 4, 20);
        dies("m29;p0;l01;" + slopesOf(9, 9, 9, 9, 1), 5, 21);
        lives("m39;p0;l01;" + slopesOf(0, 0), 2, 4);
        dies("m39;p0;l01;" + slopesOf(0, 1), 2, 5);
        dies("m39;p0;l01;" + slopesOf(1, 1), 2, 6);
        lives("m40;p0;l01;", 11, 11);
        dies("m40;p0;l01;", 12, 12);
        lives("m49;p0;l01;" + slopesOf(9, 9, 9, 9), 4, 20);
        dies("m49;p0;l01;" + slopesOf(9, 9, 9, 9, 1), 5, 21);
        lives("m50;p0;l01;d12;k00;", 11, 23);
        dies("m50;p0;l01;d12;k00;", 12, 24);
        lives("m59;p0;l01;d12;k00;d12;k00;d12;k00;", 5, 41);
        dies("m59;p0;l01;d12;k00;d12;k00;d12;k00;", 6, 42);
    }

    private static void lives(String text, int days, int worn) {
        CarriedHome x = told(text + "d" + two(days) + ";");
        due("manOf(0, 3) by " + text + days, x.manOf(0, 3), worn);
        due("manOf(0, 2) by " + text + days, x.manOf(0, 2), 1);
        due("count(6) by " + text + days, x.count(6), 0);
    }

    private static void dies(String text, int days, int worn) {
        CarriedHome x = told(text + "d" + two(days) + ";");
        due("manOf(0, 3) by " + text + days, x.manOf(0, 3), worn);
        due("manOf(0, 2) by " + text + days, x.manOf(0, 2), 2);
        due("count(6) by " + text + days, x.count(6), 1);
        due("count(5) by " + text + days, x.count(5), 0);
        int was = x.count(2);
        due("days(5) by the DEAD", x.days(5), was);
    }

    private static void needed() {
        said("NEEDED at a STAGE: LOAD and SLOPE and SNOW (home: LOAD and SNOW).");
        due("NEEDED", told("l01;s000;").shares(1, 0), 1);
        due("NEEDED", told("l60;s009;w9;").shares(1, 0), 78);
        due("NEEDED at 11", told("l60;s118;s007;w9;k11;").shares(1, 0), 77);
        due("NEEDED at 12", told("l60;s119;s009;w9;k12;").shares(1, 0), 69);
        // A FEUDIST of 9 bears 18.
        due("count(2)", told("m49;p0;l12;s003;w3;d01;").count(2), 1);
        due("count(2)", told("m49;p0;l13;s003;w3;d01;").count(2), 0);
        due("count(2)", told("m49;p0;l12;s004;w3;d01;").count(2), 0);
        due("count(2)", told("m49;p0;l12;s003;w4;d01;").count(2), 0);
        due("count(2)", told("m49;p0;l12;s003;s019;w3;d01;").count(2), 1);
        due("count(2)", told("m49;p0;l18;s000;d01;").count(2), 1);
        due("count(2)", told("m49;p0;l17;s111;k11;d01;").count(2), 12);
        due("count(2)", told("m49;p0;l17;s112;k11;d01;").count(2), 11);
    }

    private static void bearers() {
        said("of MEN PARDONED the strongest (what one BEARS), alike the least number, one more and one more till "
                + "what they BEAR together is NEEDED or more; if all together do not: nobody.");
        String men = "m00;m08;m19;m08;m29;p0;p1;p2;p3;";
        // They bear 3, 7, 6, 7; the KILLER of 16 is CONDEMNED.
        bear(men + "l06;", 2);
        bear(men + "l07;", 10);
        bear(men + "l13;", 10);
        bear(men + "l14;", 14);
        bear(men + "l19;", 14);
        bear(men + "l20;", 15);
        bear(men + "l22;", 15);
        bear(men + "l23;", 0);
        bear(men + "p1;l06;", 8);
        bear(men + "p4;l15;", 16);
        bear("l01;s000;", 0);
        bear("m00;l01;s000;", 0);
        bear("m00;p0;l01;s000;", 1);
        bear("m00;m00;m00;m00;m00;m00;m00;m00;p0;p1;p2;p3;p4;p5;p6;p7;l23;", 255);
        bear("m00;m00;m00;m00;m00;m00;m00;m00;p0;p1;p2;p3;p4;p5;p6;p7;l24;", 0);
        bear("m00;m00;m00;m00;m00;m00;m00;m00;p0;p1;p2;p3;p4;p5;p6;p7;l05;", 3);
        bear("m00;m00;m00;m00;m00;m00;m00;m00;p7;p6;p5;l05;", 96);
        // A SILENT one of 10 WORN is no more the strongest.
        CarriedHome silent = told("m59;m29;p0;l09;d10;p1;l05;");
        due("home(1)", silent.home(1), 2);
    }

    private static void bear(String text, int bits) {
        CarriedHome x = told(text);
        due("home(1) by " + text, x.home(1), bits);
        int[] before = new int[8];
        for (int m = 0; m < x.count(0); m++) {
            before[m] = x.manOf(m, 3);
        }
        due("days(1) by " + text, x.days(1), bits == 0 ? 0 : 1);
        for (int m = 0; m < x.count(0); m++) {
            boolean isWorn = x.manOf(m, 3) > before[m];
            boolean wearsOut = x.manOf(m, 0) != 1 || x.slope(0) > 0;
            due("worn " + m + " by " + text, isWorn ? 1 : 0, (bits >> m & 1) == 1 && wearsOut ? 1 : 0);
        }
    }

    private static void aDay() {
        said("A DAY goes by (home: DAY only)");
        CarriedHome x = told("m49;m30;p0;p1;w7;k12;");
        due("days(60)", x.days(60), 12);
        due("count(1)", x.count(1), 60);
        due("count(4)", x.count(4), 7);
        due("WORN", x.manOf(0, 3) + x.manOf(1, 3), 0);
        said("THE KING is a STAGE on; then who is WORN as much as he LASTS or more is DEAD.");
        x = told("m49;p0;k11;");
        due("days(1) at 11", x.days(1), 12);
        due("count(4)", x.count(4), 0);
        due("days(1) at 12", x.days(1), 12);
        due("WORN", x.manOf(0, 3), 1);
        // He bears to the end on the DAY that he dies of; on it the last STAGE, too.
        x = told("m39;p0;l01;s000;s011;k00;d01;");
        due("count(6)", x.count(6), 0);
        due("days(1)", x.days(1), 2);
        due("count(6)", x.count(6), 1);
        x = told("m39;p0;l01;s101;s112;k10;d01;");
        due("days(1)", x.days(1), 12);
        due("count(6)", x.count(6), 1);
        said("Without BEARERS he waits. Then SNOW is 1 less (0 at least), DAY 1 more.");
        x = told("m49;m49;p0;w2;l17;");
        for (int day = 1; day <= 4; day++) {
            due("days(1)", x.days(1), day <= 2 ? 0 : day - 2);
            due("count(4)", x.count(4), Math.max(0, 2 - day));
            due("count(1)", x.count(1), day);
            due("WORN", x.manOf(0, 3), Math.max(0, day - 2));
            due("WORN", x.manOf(1, 3), 0);
        }
        // SNOW goes on a DAY of bearing, too, and the one he is home on.
        x = told("m49;p0;w2;k11;");
        due("days(1)", x.days(1), 12);
        due("count(4)", x.count(4), 1);
        due("days(1)", x.days(1), 12);
        due("count(4)", x.count(4), 1);
    }

    // A reign in letters.

    private static void lettersOfReign() {
        said("A REIGN is told in letters, one by one (96 at most)");
        String full = "d01;d01;d01;d01;d01;d01;d01;d01;d01;d01;d01;d01;"
                + "d01;d01;d01;d01;d01;d01;d01;d01;d01;d01;d01;d01;";
        due("letters", full.length(), 96);
        CarriedHome x = new CarriedHome();
        for (int i = 0; i < 96; i++) {
            due("feed", x.feed(full.charAt(i)), i + 1);
        }
        due("feed(0) of 96", x.feed(0), -6);
        due("feed(255) of 96", x.feed(255), -6);
        due("count(7)", x.count(7), 96);
        due("reign()", x.reign(), 24);
        due("count(1)", x.count(1), 24);
        due("count(7)", x.count(7), 0);
        due("feed(0)", x.feed(0), 1);
        due("feed(255)", x.feed(255), 2);
        due("feed(256)", x.feed(256), -6);
        due("feed(-1)", x.feed(-1), -4);
        due("count(7)", x.count(7), 2);
        said("STATEMENTS, each with \";\" behind");
        reigns("w1", -1002);
        reigns("w1w1;", -1002);
        reigns("w1;w1", -1005);
        reigns("w1;;", -1003);
        reigns("w1:", -1002);
        reigns("w1;w1;", 2);
        said("\"m\" KIND, FIGURE (a digit each): a man more;");
        reigns("m00;m59;", 2);
        reigns("m/0;", -1001);
        reigns("m:0;", -1001);
        reigns("m0/;", -1002);
        reigns("m0:;", -1002);
        reigns("m0;", -1002);
        reigns("m000;", -1003);
        said("\"p\" a man (a digit): he is PARDONED, or, told again, CONDEMNED;");
        reigns("m00;p;", -1005);
        reigns("m00;p00;", -1006);
        reigns("m00;p/;", -1005);
        reigns("m00;p:;", -1005);
        due("count(5)", told("m00;p0;").count(5), 1);
        due("count(5)", told("m00;p0;p0;").count(5), 0);
        due("count(5)", told("m00;p0;p0;p0;").count(5), 1);
        x = told("m00;");
        x.pardons(0);
        tell(x, "p0;");
        due("count(5)", x.count(5), 0);
        said("\"s\" a STAGE (2 digits), SLOPE (a digit);");
        reigns("s000;s119;", 2);
        reigns("s00;", -1003);
        reigns("s0000;", -1004);
        reigns("s/00;", -1001);
        reigns("s0:0;", -1002);
        reigns("s00/;", -1003);
        said("\"l\" LOAD (2 digits); \"k\" a STAGE (2 digits; 0 .. 12): THE KING is there; \"w\" SNOW (a digit);");
        reigns("l01;l60;k00;k12;w0;w9;", 6);
        reigns("l1;", -1002);
        reigns("l001;", -1003);
        reigns("k1;", -1002);
        reigns("k012;", -1003);
        reigns("w;", -1001);
        reigns("w/;", -1001);
        reigns("w:;", -1001);
        reigns("w10;", -1002);
        said("\"d\" DAYS (2 digits, 1 .. 60): they go by.");
        reigns("d01;d60;", 2);
        reigns("d1;", -1002);
        reigns("d060;", -1003);
        due("count(1)", told("d01;d60;").count(1), 61);
    }

    private static void faultsOfReign() {
        said("At least one STATEMENT.");
        reigns("", -1000);
        said("FAULT: kind 1 the place of the first letter with which no REIGN can go on (the end, if something "
                + "lacks): -1000 less the place;");
        String letters = "mpslkwd";
        for (int v = 0; v < 256; v++) {
            CarriedHome x = new CarriedHome();
            x.feed(v);
            int lacks = letters.indexOf((char) v) >= 0 ? -1001 : -1000;
            due("reign of the letter " + v, x.reign(), lacks);
            tell(x, "w1;");
            x.feed(v);
            x.feed(';');
            due("reign of the letter " + v, x.reign(), lacks);
        }
        for (int v = 0; v < 256; v++) {
            CarriedHome x = new CarriedHome();
            x.feed('w');
            x.feed(v);
            boolean digit = v >= '0' && v <= '9';
            due("reign of w and the letter " + v, x.reign(), digit ? -1002 : -1001);
            x.feed('w');
            x.feed('5');
            x.feed(v);
            due("reign of w5 and the letter " + v, x.reign(), v == ';' ? 1 : -1002);
        }
        String whole = "m00;p0;s000;l01;k00;w0;d01;";
        for (int i = 0; i < whole.length(); i++) {
            boolean ends = i > 0 && whole.charAt(i - 1) == ';';
            if (!ends) {
                reigns(whole.substring(0, i), -1000 - i);
            }
            reigns(whole.substring(0, i) + "!" + whole.substring(i + 1), -1000 - i);
        }
        // The end of 96 letters, and the last of them.
        String almost = "d01;d01;d01;d01;d01;d01;d01;d01;d01;d01;d01;d01;d01;d01;d01;d01;d01;d01;d01;d01;d01;d01;d01;";
        reigns(almost + "d010", -1095);
        reigns(almost + "d01m", -1095);
        reigns(almost + "w1;w", -1096);
        reigns(almost + "w1;x", -1095);
        said("else kind 2 the place of the first letter of the first STATEMENT that, behind all ahead of it in the "
                + "text, is not as it must be");
        reigns("m60;x", -1004);
        reigns("m60;", -2000);
        reigns("m50;m60;m70;", -2004);
        reigns("w1;w2;w3;p0;", -2009);
        reigns("p0;m00;", -2000);
        reigns("m00;p0;p1;", -2007);
        reigns(almost + "k13;", -2092);
    }

    private static void statementsThatCannotBe() {
        said("(a number out of range, no such man, one DEAD, DAY above 999, no room)");
        reigns("m59;", 1);
        for (int kind = 6; kind < 10; kind++) {
            reigns("m" + kind + "0;", -2000);
        }
        reigns("s119;", 1);
        reigns("s120;", -2000);
        reigns("s200;", -2000);
        reigns("s990;", -2000);
        reigns("l01;", 1);
        reigns("l00;", -2000);
        reigns("l60;", 1);
        reigns("l61;", -2000);
        reigns("l99;", -2000);
        reigns("k00;", 1);
        reigns("k12;", 1);
        reigns("k13;", -2000);
        reigns("k99;", -2000);
        reigns("d01;", 1);
        reigns("d00;", -2000);
        reigns("d60;", 1);
        reigns("d61;", -2000);
        reigns("d99;", -2000);
        for (int m = 0; m < 10; m++) {
            reigns("m00;m00;m00;m00;m00;m00;m00;m00;p" + m + ";", m < 8 ? 9 : -2032);
            reigns("m00;m00;m00;p" + m + ";", m < 3 ? 4 : -2012);
            reigns("p" + m + ";", -2000);
        }
        // A FORGER of 3, WORN 4 and then 7.
        reigns("m39;p0;l01;s002;d01;p0;", 6);
        reigns("m39;p0;l01;s002;d02;p0;", -2020);
        CarriedHome dead = told("m39;m00;p0;l01;s002;d02;");
        due("reign", tell(dead, "p1;p0;"), -2003);
        due("count(5)", dead.count(5), 0);
        CarriedHome late = onDay(939);
        due("reign", tell(late, "d60;"), 1);
        due("count(1)", late.count(1), 999);
        due("reign", tell(late, "w0;d01;"), -2003);
        late = onDay(940);
        due("reign", tell(late, "d60;"), -2000);
        due("reign", tell(late, "d59;"), 1);
        due("reign", tell(late, "k12;d01;"), -2004);
        due("count(2)", late.count(2), 0);
        String seven = "m00;m00;m00;m00;m00;m00;m00;";
        reigns(seven + "m00;", 8);
        reigns(seven + "m00;m00;", -2032);
        CarriedHome full = told(seven);
        full.man(0, 0);
        due("reign", tell(full, "m00;"), -2000);
        due("count(0)", full.count(0), 8);
    }

    private static void allOrNothing() {
        said("Without FAULT all of it comes, with one nothing.");
        String all = "m49;m00;p0;s004;l13;k02;w5;d03;";
        CarriedHome x = told(all);
        due("all", x.count(0) + 10 * x.count(1) + 100 * x.count(2), 2 + 30 + 400);
        due("all", x.count(3) + 100 * x.count(4) + 1000 * x.count(5) + 10000 * x.slope(0), 13 + 200 + 1000 + 40000);
        String[] faults = {"x", "p9;", "m", "d00;", "k13;", "w1;l61;"};
        for (String fault : faults) {
            CarriedHome y = new CarriedHome();
            y.loads(14);
            due("is a FAULT", tell(y, all + fault) < 0 ? 1 : 0, 1);
            due("nothing", y.count(0) + y.count(1) + y.count(2) + y.count(4) + y.count(5) + y.count(6), 0);
            due("LOAD", y.count(3), 14);
            due("SLOPE", y.slope(0), 1);
            due("letters", y.count(7), 0);
            due("back()", y.back(), 0);
            due("LOAD", y.count(3), 12);
        }
        said("The letters, which are no more then (with a FAULT neither), are a REIGN: how many STATEMENTS; the "
                + "FAULT (nothing is counted).");
        x = new CarriedHome();
        int[] answers = {tell(x, "w1;"), x.count(7), tell(x, "w"), x.count(7), tell(x, "p0;"), x.count(7), x.reign()};
        due("answers " + Arrays.toString(answers),
                Arrays.equals(answers, new int[] {1, 0, -1001, 0, -2000, 0, -1000}) ? 1 : 0, 1);
        for (int what = 11; what <= 16; what++) {
            due("count(" + what + ")", x.count(what), 0);
        }
    }

    // II: days in mind.

    private static void inMind() {
        said("In mind, n DAYS on (0 .. 60): where THE KING is; WORN of one; who is DEAD (bits).");
        CarriedHome x = told("m39;m49;p0;p1;l18;s000;s011;s021;");
        // The FEUDIST bears alone on SLOPE 0; then both bear, till the FORGER is WORN 6.
        int[] kings = {0, 1, 2, 3};
        int[] worns = {0, 0, 3, 6};
        for (int n = 0; n < 4; n++) {
            due("then(" + n + ", 0)", x.then(n, 0), kings[n]);
            due("wornIn(0, " + n + ")", x.wornIn(0, n), worns[n]);
        }
        due("then(60, 0)", x.then(60, 0), 3);
        due("wornIn(0, 60)", x.wornIn(0, 60), 6);
        due("then(2, 1)", x.then(2, 1), 0);
        due("then(3, 1)", x.then(3, 1), 1);
        x = told("m39;p0;l01;s001;s011;");
        due("then(1, 1)", x.then(1, 1), 0);
        due("then(2, 1)", x.then(2, 1), 1);
        due("then(60, 1)", x.then(60, 1), 1);
        x.days(2);
        due("then(0, 1)", x.then(0, 1), 1);
        // Far on and at the end of days in mind he goes on as before.
        CarriedHome late = onDay(999);
        late.man(4, 9);
        late.pardons(0);
        due("then(12, 0) on 999", late.then(12, 0), 12);
        due("home(0) on 999", late.home(0), 12);
        due("count(1)", late.count(1), 999);
        said("HOME: behind how many DAYS (0 .. 60) THE KING is; -9.");
        due("home(0)", told("k12;").home(0), 0);
        due("home(0)", told("m49;p0;k11;").home(0), 1);
        due("home(0)", told("m49;p0;").home(0), 12);
        due("home(0)", told("m49;p0;w9;").home(0), 16);
        due("home(0)", told("m49;p0;w9;l17;").home(0), 21);
        due("home(0)", told("m49;p0;l17;s112;").home(0), -9);
        due("home(0)", told("m49;").home(0), -9);
        said("DIES: behind how many DAYS (0 .. 60) one is DEAD first; -9;");
        x = told("m39;m39;m39;p0;l01;s002;d02;p1;k00;");
        due("dies(0)", x.dies(0), 0);
        due("dies(1)", x.dies(1), 2);
        due("dies(2)", x.dies(2), -9);
        due("dies(0)", told("m39;p0;l01;s001;s011;d01;").dies(0), 1);
        // A MAN of 7 waits for the snow of 9 to go, then bears six days.
        due("dies(0)", told("m09;p0;l06;w9;").dies(0), 15);
        due("dies(0)", told("m49;p0;").dies(0), -9);
        said("FIRST: who of those PARDONED now, of several the least; -9.");
        due("dies(-1)", x.dies(-1), 1);
        due("dies(-1)", told("m39;p0;l01;s002;d02;").dies(-1), -9);
        due("dies(-1)", new CarriedHome().dies(-1), -9);
        due("dies(-1)", told("m39;l01;").dies(-1), -9);
        due("dies(-1)", told("m09;m09;p0;p1;").dies(-1), 0);
        due("dies(-1)", told("m09;m08;p1;p0;p0;m08;p2;").dies(-1), 1);
        // The FORGER bears with the KILLER and dies long ahead of him, whose number is less.
        due("dies(-1)", told("m20;m39;p0;p1;l05;").dies(-1), 1);
        due("dies(-1)", told("m49;p0;k12;").dies(-1), -9);
    }

    private static void waitsAndBearing() {
        said("WAITS: how many of the next n DAYS he waits (home not counted).");
        CarriedHome x = told("m49;p0;w9;k11;");
        // 18 bears snow of 5: he waits on 9, 8, 7 and 6.
        int[] waits = {0, 1, 2, 3, 4, 4, 4};
        for (int n = 0; n < 7; n++) {
            due("then(" + n + ", 2)", x.then(n, 2), waits[n]);
        }
        due("then(60, 2)", x.then(60, 2), 4);
        due("then(60, 2)", told("k12;").then(60, 2), 0);
        due("then(60, 2)", new CarriedHome().then(60, 2), 60);
        due("then(0, 2)", new CarriedHome().then(0, 2), 0);
        said("BEARING: BEARERS of the next DAY (bits; home 0).");
        due("home(1)", told("m49;p0;k11;").home(1), 1);
        due("home(1)", told("m49;p0;k12;").home(1), 0);
        due("home(1)", told("m49;p0;w9;").home(1), 0);
        due("home(1)", new CarriedHome().home(1), 0);
    }

    private static void mercyAndFewest() {
        said("MERCY: whom of those CONDEMNED to pardon now so that THE KING is farthest behind n DAYS (0 .. 60), "
                + "farther than else, of several the least; -9.");
        CarriedHome x = told("m00;m49;m49;m29;");
        due("mercy(0)", x.mercy(0), -9);
        due("mercy(1)", x.mercy(1), 1);
        due("mercy(12)", x.mercy(12), 1);
        due("mercy(60)", x.mercy(60), 1);
        due("mercy(60)", new CarriedHome().mercy(60), -9);
        due("mercy(60)", told("m49;p0;").mercy(60), -9);
        due("mercy(60)", told("m49;m49;p0;").mercy(60), -9);
        due("mercy(60)", told("m49;k12;").mercy(60), -9);
        due("mercy(60)", told("m09;").mercy(60), -9);
        // A MAN of 7 comes six STAGES far, a THIEF of 6 for 6 all the way.
        due("mercy(6)", told("m09;m19;l05;").mercy(6), 0);
        due("mercy(7)", told("m09;m19;l05;").mercy(7), 1);
        // The DEAD one is not asked.
        due("mercy(60)", told("m39;m39;p0;l01;s002;d02;").mercy(60), 1);
        said("FEWEST: the fewest CONDEMNED (bits, of several the least) to pardon now so that he is home within n "
                + "DAYS (0 .. 60); -9.");
        x = told("m49;m49;m59;");
        due("fewest(11)", x.fewest(11), -9);
        due("fewest(12)", x.fewest(12), 1);
        due("fewest(60)", x.fewest(60), 1);
        x.loads(18);
        due("fewest(60)", x.fewest(60), 3);
        x.loads(36);
        due("fewest(60)", x.fewest(60), 7);
        x.loads(54);
        due("fewest(60)", x.fewest(60), -9);
        due("fewest(0)", x.fewest(0), -9);
        due("fewest(0)", told("k12;m49;").fewest(0), 0);
        due("fewest(0)", told("k11;m49;").fewest(0), -9);
        due("fewest(1)", told("k11;m49;").fewest(1), 1);
        due("fewest(1)", told("k11;m49;p0;").fewest(1), 0);
        due("fewest(1)", told("k11;m09;m09;m29;").fewest(1), 4);
        due("fewest(1)", told("k11;m00;m09;m09;").fewest(1), 6);
        due("fewest(1)", told("k11;m00;m09;m09;m09;").fewest(1), 6);
        due("fewest(1)", told("k11;m00;m09;m09;m09;l16;").fewest(1), 7);
        due("fewest(1)", told("k11;m00;m09;m09;m09;l17;").fewest(1), 14);
        due("fewest(1)", told("k11;m08;m09;m09;m09;l13;").fewest(1), 3);
        due("fewest(60)", new CarriedHome().fewest(60), -9);
        String eight = "m00;m00;m00;m00;m00;m00;m00;m00;k11;";
        due("fewest(1)", told(eight + "l02;").fewest(1), 1);
        due("fewest(1)", told(eight + "l03;").fewest(1), 3);
        due("fewest(1)", told(eight + "l20;").fewest(1), 127);
        due("fewest(1)", told(eight + "l21;").fewest(1), 255);
        due("fewest(1)", told(eight + "l23;").fewest(1), 255);
        due("fewest(1)", told(eight + "l24;").fewest(1), -9);
        due("fewest(1)", told("m39;m19;p0;l01;s002;d02;k11;").fewest(1), 2);
        due("fewest(1)", told("m39;p0;l01;s002;d02;k11;").fewest(1), -9);
    }

    private static void crownAndDig() {
        said("CROWN: the greatest LOAD (1 .. 60) with which he is home within n DAYS; -9.");
        due("crown(0)", told("k12;").crown(0), 60);
        due("crown(0)", told("k11;m49;p0;").crown(0), -9);
        due("crown(1)", told("k11;m49;p0;").crown(1), 17);
        due("crown(1)", told("k11;m49;m49;m49;p0;p1;p2;").crown(1), 53);
        due("crown(1)", told("k11;m49;m49;m49;m18;p0;p1;p2;p3;").crown(1), 59);
        due("crown(1)", told("k11;m49;m49;m49;m08;p0;p1;p2;p3;").crown(1), 60);
        due("crown(1)", told("k11;m49;m49;m49;m49;p0;p1;p2;p3;").crown(1), 60);
        due("crown(1)", told("k11;s110;m30;p0;").crown(1), 1);
        due("crown(1)", told("k11;s111;m30;p0;").crown(1), -9);
        due("crown(1)", told("k11;w5;m49;p0;").crown(1), 12);
        due("crown(2)", told("k11;w5;m49;p0;").crown(2), 13);
        due("crown(60)", told("k11;w5;m49;p0;").crown(60), 17);
        due("crown(60)", new CarriedHome().crown(60), -9);
        said("DIG: the STAGE whose SLOPE as 0 now lets him be farthest behind n DAYS, farther than else, of several "
                + "the least; -9.");
        due("dig(60)", new CarriedHome().dig(60), -9);
        CarriedHome x = told("m49;p0;l17;s002;");
        due("dig(0)", x.dig(0), -9);
        due("dig(1)", x.dig(1), 0);
        due("dig(60)", x.dig(60), 0);
        x = told("m49;p0;l17;s112;");
        due("dig(11)", x.dig(11), -9);
        due("dig(12)", x.dig(12), 11);
        due("dig(60)", x.dig(60), 11);
        due("dig(60)", told("m49;p0;l17;s112;s052;").dig(60), 5);
        due("dig(60)", told("m49;p0;").dig(60), -9);
        due("dig(60)", told("m49;p0;l19;s000;").dig(60), -9);
        due("dig(60)", told("k12;").dig(60), -9);
        // A MAN, worn 2 a day: each STAGE dug lets him go no farther than another; one behind him does not help.
        due("dig(60)", told("m09;p0;l06;k03;").dig(60), 3);
    }

    private static void keep() {
        said("KEEP: the one PARDONED whom, CONDEMNED again now, it costs least (he is farthest behind n DAYS), of "
                + "several the least; -9; where THE KING is then.");
        keeps("m49;", 60, -9, -9);
        keeps("m39;m49;p0;l01;s002;d02;", 60, -9, -9);
        keeps("m49;p0;", 60, 0, 0);
        keeps("m49;p0;k05;", 0, 0, 5);
        keeps("m49;p0;k12;", 60, 0, 12);
        keeps("m49;m49;p0;p1;", 60, 0, 12);
        keeps("m49;m49;p1;", 60, 1, 0);
        keeps("m49;m00;p0;p1;", 60, 1, 12);
        keeps("m49;m00;m00;p0;p1;p2;", 12, 1, 12);
        keeps("m00;m49;m49;p2;p1;", 1, 1, 1);
        keeps("m09;m49;m09;p0;p1;p2;", 60, 0, 12);
    }

    private static void keeps(String text, int n, int who, int where) {
        CarriedHome x = told(text);
        due("keep(" + n + ", 0) of " + text, x.keep(n, 0), who);
        due("keep(" + n + ", 1) of " + text, x.keep(n, 1), where);
    }

    // II: twos, poles, who bore, what kind, two, odds, shares, lots.

    private static void step() {
        said("two MEN PARDONED keep step, if what they BEAR is alike; PAIRS: the most twos that keep step (each once "
                + "at most).");
        String[] texts = {"w0;", "m00;p0;", "m00;m00;p0;", "m00;m01;p0;p1;", "m00;m02;p0;p1;", "m00;m00;m00;p0;p1;p2;",
            "m00;m00;m00;m00;p0;p1;p2;p3;", "m00;m02;m00;m12;m02;p0;p1;p2;p3;p4;",
            "m00;m00;m00;m00;m00;m00;m00;m00;p0;p1;p2;p3;p4;p5;p6;p7;", "m49;m59;p0;p1;",
            "m59;p0;l01;d09;m49;p1;", "m59;p0;l01;d10;m49;p1;", "m00;m20;m12;m09;m19;m06;p0;p1;p2;p3;p4;p5;"};
        int[] twos = {0, 0, 0, 1, 0, 1, 2, 2, 4, 1, 1, 0, 2};
        for (int i = 0; i < texts.length; i++) {
            due("pairs(0) of " + texts[i], told(texts[i]).pairs(0), twos[i]);
        }
        said("POLES: of MEN PARDONED the least set (bits; fewest men, of several the least) that BEARS NEEDED or more "
                + "here; -9.");
        due("pairs(1)", new CarriedHome().pairs(1), -9);
        due("pairs(1)", told("m49;").pairs(1), -9);
        due("pairs(1)", told("m49;p0;l17;").pairs(1), 1);
        due("pairs(1)", told("m49;p0;l18;").pairs(1), -9);
        due("pairs(1)", told("m49;p0;l18;k12;").pairs(1), 1);
        due("pairs(1)", told("m49;p0;l17;w1;").pairs(1), -9);
        due("pairs(1)", told("m29;m49;p0;p1;l15;").pairs(1), 1);
        due("pairs(1)", told("m29;m49;p0;p1;l16;").pairs(1), 2);
        due("pairs(1)", told("m09;m09;m29;p0;p1;p2;l13;").pairs(1), 4);
        due("pairs(1)", told("m09;m09;m09;m09;p0;p3;p2;l13;").pairs(1), 5);
        due("pairs(1)", told("m00;m09;m09;p0;p1;p2;l13;").pairs(1), 6);
        due("pairs(1)", told("m00;m09;m09;p0;p1;p2;l16;").pairs(1), 7);
        due("pairs(1)", told("m00;m09;m09;p0;p1;p2;l17;").pairs(1), -9);
        String eight = "m00;m00;m00;m00;m00;m00;m00;m00;p0;p1;p2;p3;p4;p5;p6;p7;";
        due("pairs(1)", told(eight + "l01;s000;").pairs(1), 1);
        due("pairs(1)", told(eight + "l20;").pairs(1), 127);
        due("pairs(1)", told(eight + "l21;").pairs(1), 255);
        due("pairs(1)", told(eight + "l24;").pairs(1), -9);
        said("OWES: how many PARDONED have borne (WORN above 0).");
        due("pairs(2)", new CarriedHome().pairs(2), 0);
        CarriedHome x = told("m49;m19;p0;p1;s000;s010;l23;");
        due("pairs(2)", x.pairs(2), 0);
        x.days(1);
        // On SLOPE 0 neither is worn.
        due("pairs(2)", x.pairs(2), 0);
        x.slopes(1, 1);
        x.days(1);
        due("pairs(2)", x.pairs(2), 2);
        x.pardons(0);
        due("pairs(2)", x.pairs(2), 1);
        due("pairs(2) of one DEAD", told("m39;p0;l01;s002;d02;").pairs(2), 0);
        said("HARM: what all PARDONED BEAR together less NEEDED here (may be below 0).");
        due("pairs(3)", new CarriedHome().pairs(3), -13);
        due("pairs(3)", told("l60;s009;w9;").pairs(3), -78);
        due("pairs(3)", told("m49;m00;p0;l17;").pairs(3), 0);
        due("pairs(3)", told("m49;m00;p0;p1;l17;").pairs(3), 3);
        due("pairs(3)", told("m49;p0;l18;").pairs(3), -1);
        due("pairs(3)", told("m49;p0;l18;k12;").pairs(3), 0);
    }

    private static void whoBoreAndWhatKind() {
        said("WHO BORE: a ROW tells where THE KING is behind 0, 1, .. DAYS: MEN (bits) CONDEMNED now, by whom PARDONED "
                + "all of it is so (one alone more);");
        String men = "m49;m00;m49;m39;p2;p2;p3;l01;s002;d02;l12;k00;";
        due("whoBore() of an empty ROW", told(men).whoBore(), 7);
        due("whoBore()", rowOf(told(men), 0, 0).whoBore(), 2);
        due("whoBore()", rowOf(told(men), 0, 1).whoBore(), 5);
        due("whoBore()", rowOf(told(men), 1).whoBore(), 0);
        due("whoBore()", rowOf(told(men), 0).whoBore(), 7);
        due("whoBore()", rowOf(told(men), 0, 1, 2, 3, 4, 5, 6, 7, 8, 9, 10, 11).whoBore(), 5);
        due("whoBore()", rowOf(told(men), 0, 1, 2, 3, 4, 5, 6, 7, 8, 9, 10, 10).whoBore(), 0);
        due("whoBore()", rowOf(told(men + "k11;"), 11, 12, 12).whoBore(), 5);
        due("whoBore()", rowOf(told(men + "k12;"), 12, 12).whoBore(), 7);
        due("whoBore() of an empty ROW and no men", new CarriedHome().whoBore(), 0);
        due("whoBore() of one PARDONED", rowOf(told("m49;p0;"), 0, 1).whoBore(), 0);
        // Two MEN of 7 do it with the one who is PARDONED, but not they two.
        due("whoBore()", rowOf(told("m09;m09;m09;p1;"), 0, 1).whoBore(), 5);
        due("whoBore()", rowOf(told("m09;m09;m09;"), 0, 1).whoBore(), 0);
        CarriedHome kept = rowOf(told(men), 0, 1);
        kept.whoBore();
        due("count(8): it stays", kept.count(8), 2);
        said("WHAT KIND: a ROW tells WORN of one likewise: KINDS (bits) of him by which all of it is so; FIGURES (bits "
                + "0 .. 9).");
        CarriedHome x = told("m49;m00;p0;l03;");
        due("whatKind(0, 0) of an empty ROW", x.whatKind(0, 0), 63);
        due("whatKind(0, 1) of an empty ROW", x.whatKind(0, 1), 1023);
        due("whatKind(0, 0)", rowOf(x, 0).whatKind(0, 0), 63);
        due("whatKind(0, 1)", rowOf(x, 0).whatKind(0, 1), 1023);
        due("whatKind(0, 0)", rowOf(x, 1).whatKind(0, 0), 0);
        due("whatKind(0, 1)", rowOf(x, 1).whatKind(0, 1), 0);
        // The FORGER of 3 bears too little for 3 and 1.
        due("whatKind(0, 0)", rowOf(x, 0, 0).whatKind(0, 0), 8);
        due("whatKind(0, 0)", rowOf(x, 0, 1, 2, 3, 4, 5, 6, 7, 8, 9, 10, 11).whatKind(0, 0), 54);
        due("whatKind(0, 0)", rowOf(x, 0, 2, 4, 6, 8, 10, 12, 12).whatKind(0, 0), 1);
        due("whatKind(1, 0) of one CONDEMNED", rowOf(x, 0, 0, 0).whatKind(1, 0), 63);
        due("count(8): it stays", x.count(8), 3);
        x.loads(17);
        due("whatKind(0, 1)", rowOf(x, 0, 1).whatKind(0, 1), 512);
        due("whatKind(0, 1)", rowOf(x, 0, 0).whatKind(0, 1), 511);
        x.loads(4);
        due("whatKind(0, 1)", rowOf(x, 0, 1).whatKind(0, 1), 1023);
        x.loads(5);
        due("whatKind(0, 1)", rowOf(x, 0, 1).whatKind(0, 1), 1022);
    }

    private static void twoWhoAreCondemned() {
        said("each has 3, if THE KING is home within n DAYS (0 .. 60), less his WORN then by 4, cut: the first pair (10 "
                + "the one's and the other's) by which neither has more by another choice alone; -9.");
        // Nobody can bear: nothing for both.
        due("two(0, 1, 60)", told("m00;m00;").two(0, 1, 60), 0);
        due("two(0, 1, 0)", told("m49;m49;k11;").two(0, 1, 0), 0);
        due("two(0, 1, 1)", told("m49;m49;k11;").two(0, 1, 1), 1);
        due("two(0, 1, 60)", told("m49;m49;k11;").two(0, 1, 60), 1);
        due("two(1, 0, 60)", told("m49;m49;k11;").two(1, 0, 60), 1);
        due("two(0, 1, 1)", told("m49;m00;k11;").two(0, 1, 1), 10);
        due("two(1, 0, 1)", told("m49;m00;k11;").two(1, 0, 1), 1);
        due("two(0, 1, 0)", told("m49;m49;k12;").two(0, 1, 0), 0);
        // Only both together could: alone neither has more.
        due("two(0, 1, 1)", told("m09;m09;k11;").two(0, 1, 1), 0);
        due("two(0, 2, 1)", told("m49;m00;m00;p0;p0;k11;m09;p3;").two(0, 2, 1), 10);
        // WORN 11 by 4, cut, leaves 1 of 3; WORN 12 nothing.
        due("two(0, 1, 12)", told("m49;m00;s000;").two(0, 1, 12), 10);
        due("two(0, 1, 12)", told("m49;m00;").two(0, 1, 12), 0);
        due("two(0, 1, 12)", told("m49;m00;s005;s000;").two(0, 1, 12), 10);
        due("two(0, 1, 11)", told("m49;m00;s000;").two(0, 1, 11), 0);
        due("two(0, 1, 12)", told("m00;m49;s000;").two(0, 1, 12), 1);
        due("two(0, 1, 12)", told("m00;m49;").two(0, 1, 12), 0);
        due("two(0, 1, 11)", told("m00;m49;s000;").two(0, 1, 11), 0);
        due("two(0, 1, 8)", told("m00;m49;p1;l01;d08;p1;k04;l12;").two(0, 1, 8), 1);
        // He has -2 of WORN 8 ahead, nothing more of WORN 16: 3 less 4 is more than -2.
        due("two(0, 1, 8)", told("m49;m00;p0;l01;d08;p0;k04;l12;").two(0, 1, 8), 10);
    }

    private static void falls() {
        said("FALLS: on each of n DAYS (0 .. 7), by itself, ahead of it, SNOW is 4 more (9 at most) with odds 1 in t "
                + "(2 .. 20): how likely THE KING is at a STAGE v (0 .. 12) or farther behind these: a fraction.");
        CarriedHome x = told("m49;p0;l14;");
        // 18 bears SNOW of 3: it must not fall on that day.
        fraction(x, 0, 2, 0, 1, 1);
        fraction(x, 0, 20, 1, 0, 1);
        fraction(x, 0, 20, 12, 0, 1);
        fraction(x, 1, 2, 1, 1, 2);
        fraction(x, 1, 20, 1, 19, 20);
        fraction(x, 1, 2, 0, 1, 1);
        fraction(x, 1, 2, 2, 0, 1);
        fraction(x, 2, 2, 2, 1, 4);
        fraction(x, 2, 20, 2, 361, 400);
        fraction(x, 7, 2, 7, 1, 128);
        fraction(x, 7, 20, 7, 893871739L, 1280000000L);
        fraction(x, 7, 20, 8, 0, 1);
        fraction(x, 7, 20, 0, 1, 1);
        // Behind a fall on the first day 3 are left, and he goes on, if it does not fall again.
        fraction(x, 2, 2, 1, 3, 4);
        fraction(told("m49;p0;l14;k11;"), 1, 2, 12, 1, 2);
        fraction(told("m49;p0;l14;k12;"), 7, 2, 12, 1, 1);
        // 9 at most: 5 and 4 are 9, 6 .. 9 and 4 are 9, too; for a LOAD of 9 it is too much.
        for (int snow = 5; snow <= 9; snow++) {
            fraction(told("m49;p0;l08;w" + snow + ";"), 1, 3, 1, 1, 1);
            fraction(told("m49;p0;l09;w" + snow + ";"), 1, 3, 1, snow == 9 ? 0 : 2, snow == 9 ? 1 : 3);
        }
        fraction(told("m49;p0;l09;w4;"), 1, 3, 1, 1, 1);
    }

    private static void fraction(CarriedHome x, int n, int t, int v, long above, long below) {
        String call = "falls(" + n + ", " + t + ", " + v + ", ";
        due(call + "0)", x.falls(n, t, v, 0), above);
        due(call + "1)", x.falls(n, t, v, 1), below);
    }

    private static void sharesAndRow() {
        said("SHARES: NEEDED here by n (1 .. 9), cut; what is over (home: LOAD and SNOW).");
        for (int n = 1; n <= 9; n++) {
            due("shares(" + n + ", 0)", told("l60;s009;w9;").shares(n, 0), 78 / n);
            due("shares(" + n + ", 1)", told("l60;s009;w9;").shares(n, 1), 78 % n);
            due("shares(" + n + ", 0)", told("l01;s000;").shares(n, 0), n == 1 ? 1 : 0);
            due("shares(" + n + ", 1)", told("l01;s000;").shares(n, 1), n == 1 ? 0 : 1);
            due("shares(" + n + ", 0) at home", told("l60;s009;s119;w9;k12;").shares(n, 0), 69 / n);
            due("shares(" + n + ", 1) at home", told("l60;s009;s119;w9;k12;").shares(n, 1), 69 % n);
        }
        said("A ROW of numbers (0 .. 99; 12 at most): JUDGED: WORN of MEN 0, 1, ..: the first that is not so (none "
                + "there, too); -9.");
        CarriedHome x = new CarriedHome();
        for (int i = 0; i < 12; i++) {
            due("row", x.row(i % 2 * 99), i + 1);
        }
        due("row of 12", x.row(0), -6);
        due("judge() of no men", x.judge(), 0);
        due("row", x.row(0), 1);
        due("clear()", x.clear(), 1);
        due("judge() of an empty ROW", x.judge(), -9);
        x = told("m49;m00;m49;p0;d07;p2;l20;k00;d01;");
        // They are WORN 7, 0 and 0.
        int[][] rows = {{7}, {6}, {8}, {7, 0}, {7, 1}, {7, 0, 0}, {7, 0, 1}, {7, 0, 0, 0}, {6, 1, 1}, {99}, {}};
        int[] judged = {-9, 0, 0, -9, 1, -9, 2, 3, 0, 0, -9};
        for (int i = 0; i < rows.length; i++) {
            due("judge() of " + Arrays.toString(rows[i]), rowOf(x, rows[i]).judge(), judged[i]);
            due("count(8)", x.count(8), 0);
        }
        CarriedHome eight = told("m00;m00;m00;m00;m00;m00;m00;m00;");
        due("judge() of eight", rowOf(eight, 0, 0, 0, 0, 0, 0, 0, 0).judge(), -9);
        due("judge() of eight and one", rowOf(eight, 0, 0, 0, 0, 0, 0, 0, 0, 0).judge(), 8);
        due("judge() of eight and four", rowOf(eight, 0, 0, 0, 0, 0, 0, 0, 0, 0, 0, 0, 0).judge(), 8);
    }

    private static void lots() {
        said("LOTS with a seed z: n reigns (1 .. 20), each from now: SLOPE of each STAGE, by numbers, a DRAW below 10; "
                + "then 15 DAYS: STAGES gone, together; DEAD ones, together.");
        said("DRAWS: z becomes z times 1103515245 plus 12345 (an int, wrapping); a DRAW below n is (z without its "
                + "sign's bit, over 65536, cut) modulo n.");
        int[] seeds = {0, 1, -1, 2, 65535, 65536, Integer.MAX_VALUE, Integer.MIN_VALUE, -987654321, 1103515245};
        for (int z : seeds) {
            for (int n : new int[] {1, 2, 20}) {
                lots("m49;m09;m39;p0;p1;p2;", n, z);
                lots("m49;m49;p0;p1;l20;w9;k05;", n, z);
                lots("m39;m00;p0;l01;s002;d02;p1;", n, z);
                lots("m59;m29;p0;p1;l09;k11;", n, z);
                lots("m49;m49;p0;p1;l27;w9;", n, z);
            }
        }
        due("lots(20, 3, 0) at home", told("m49;p0;k12;").lots(20, 3, 0), 0);
        due("lots(20, 3, 1) at home", told("m49;p0;k12;").lots(20, 3, 1), 0);
        due("lots(20, 3, 0) without men", new CarriedHome().lots(20, 3, 0), 0);
        // Those all bear: 12 STAGES each time.
        due("lots(1, 3, 0)", told("m49;m49;m49;p0;p1;p2;").lots(1, 3, 0), 12);
        due("lots(20, 3, 0)", told("m49;m49;m49;p0;p1;p2;").lots(20, 3, 0), 240);
    }

    /** By draws in longs and a new object for each reign. */
    private static void lots(String text, int n, int z) {
        long seed = z & 0xffffffffL;
        int gone = 0;
        int dead = 0;
        for (int i = 0; i < n; i++) {
            CarriedHome x = told(text);
            for (int s = 0; s < 12; s++) {
                seed = (seed * 1103515245L + 12345L) & 0xffffffffL;
                x.slopes(s, (int) ((seed & 0x7fffffffL) / 65536L % 10L));
            }
            int from = x.count(2);
            gone += x.days(15) - from;
            dead += Integer.bitCount(x.count(6));
        }
        CarriedHome x = told(text);
        due("lots(" + n + ", " + z + ", 0) of " + text, x.lots(n, z, 0), gone);
        due("lots(" + n + ", " + z + ", 1) of " + text, x.lots(n, z, 1), dead);
    }

    // III and IV.

    private static void takenBack() {
        said("What pardons(), slopes(), loads(), days() changed can be TAKEN BACK (each that is not refused counts, "
                + "also if all stays as it was), the latest first, 8 at most (older ones no more;");
        CarriedHome x = told("m49;");
        x.pardons(0);
        due("count(9)", x.count(9), 1);
        x.slopes(0, 2);
        due("count(9)", x.count(9), 2);
        x.loads(13);
        due("count(9)", x.count(9), 3);
        x.days(1);
        due("count(9)", x.count(9), 4);
        due("back()", x.back(), 3);
        due("count(1) + count(2)", x.count(1) + x.count(2) + x.manOf(0, 3), 0);
        due("back()", x.back(), 2);
        due("count(3)", x.count(3), 12);
        due("back()", x.back(), 1);
        due("slope(0)", x.slope(0), 1);
        due("back()", x.back(), 0);
        due("count(5)", x.count(5), 0);
        due("back()", x.back(), -3);
        x.loads(12);
        x.slopes(3, 1);
        due("count(9)", x.count(9), 2);
        x.days(0);
        x.days(61);
        x.loads(0);
        x.slopes(12, 0);
        x.pardons(1);
        due("count(9)", x.count(9), 2);
        x = told("m49;");
        for (int v = 20; v < 27; v++) {
            x.loads(v);
        }
        due("count(9)", x.count(9), 7);
        x.loads(27);
        due("count(9)", x.count(9), 8);
        x.loads(28);
        due("count(9)", x.count(9), 8);
        for (int left = 7; left >= 0; left--) {
            due("back()", x.back(), left);
            due("count(3)", x.count(3), 20 + left);
        }
        due("back()", x.back(), -3);
        due("count(3)", x.count(3), 20);
        said("man(), snows(), a REIGN without FAULT, restore(), where they are not refused, leave none).");
        x = told("m49;");
        x.loads(20);
        x.man(0, 0);
        nothingIsLeft(x, "man(0, 0)");
        x.loads(20);
        x.snows(0);
        nothingIsLeft(x, "snows(0)");
        x.loads(20);
        tell(x, "w0;");
        nothingIsLeft(x, "a REIGN");
        x.loads(20);
        x.image();
        x.restore();
        nothingIsLeft(x, "restore()");
        CarriedHome y = told("m49;");
        y.loads(20);
        y.restore();
        y.image();
        y.man(0, -1);
        y.snows(10);
        tell(y, "m");
        tell(y, "l61;");
        y.reign();
        due("count(9) behind refusals, FAULTS and an image", y.count(9), 1);
        due("back()", y.back(), 0);
        due("count(3)", y.count(3), 12);
    }

    private static void nothingIsLeft(CarriedHome x, String call) {
        due("count(9) behind " + call, x.count(9), 0);
        due("back() behind " + call, x.back(), -3);
    }

    private static void strongestAndSo() {
        said("STRONGEST of those PARDONED, of several the least; -9.");
        due("strongest(0)", new CarriedHome().strongest(0), -9);
        due("strongest(0)", told("m49;").strongest(0), -9);
        due("strongest(0)", told("m49;m00;p1;").strongest(0), 1);
        due("strongest(0)", told("m00;m49;m59;p2;p1;p0;").strongest(0), 1);
        due("strongest(0)", told("m59;m29;p0;p1;l01;d09;").strongest(0), 0);
        due("strongest(0)", told("m59;m29;p0;p1;l01;d10;").strongest(0), 1);
        due("strongest(0) of the DEAD", told("m39;p0;l01;s002;d02;").strongest(0), -9);
        said("STEEPEST: the STAGE of greatest SLOPE, of several the least.");
        due("strongest(1)", new CarriedHome().strongest(1), 0);
        due("strongest(1)", told("s112;").strongest(1), 11);
        due("strongest(1)", told("s112;s102;").strongest(1), 10);
        due("strongest(1)", told("s112;s002;").strongest(1), 0);
        due("strongest(1)", told("s000;").strongest(1), 1);
        due("strongest(1)", told("s002;k05;").strongest(1), 0);
        said("LEFT: STAGES yet to go. GALLOWS: how many are CONDEMNED.");
        due("strongest(2)", new CarriedHome().strongest(2), 12);
        due("strongest(2)", told("k11;").strongest(2), 1);
        due("strongest(2)", told("k12;").strongest(2), 0);
        due("strongest(3)", new CarriedHome().strongest(3), 0);
        due("strongest(3)", told("m00;m00;p0;").strongest(3), 1);
        due("strongest(3)", told("m00;m00;m00;m00;m00;m00;m00;m00;").strongest(3), 8);
        due("strongest(3) of the DEAD", told("m39;p0;l01;s002;d02;").strongest(3), 0);
    }

    private static void meanAndSo() {
        said("MEAN SLOPE of the STAGES yet to go: a fraction (0 over 1 of none).");
        mean("k12;", 0, 1);
        mean("k11;", 1, 1);
        mean("k11;s110;", 0, 1);
        mean("k11;s119;", 9, 1);
        mean("k10;s110;", 1, 2);
        mean("k10;s009;s099;s110;", 1, 2);
        mean("w0;", 1, 1);
        mean("s002;", 13, 12);
        mean("s004;", 5, 4);
        mean("s000;", 11, 12);
        said("SPARE: how much one can be WORN yet (0 at least).");
        due("spare(0)", told("m39;p0;l01;s000;s010;d02;").spare(0), 1);
        due("spare(0)", told("m39;p0;l01;s000;s011;d02;").spare(0), 0);
        due("spare(0)", told("m39;p0;l01;s001;s011;d02;").spare(0), 0);
        due("spare(0)", told("m59;p0;l01;d12;").spare(0), 30);
        said("HEIGHT: all SLOPES yet to go.");
        due("height(0)", new CarriedHome().height(0), 12);
        due("height(0)", told("s009;").height(0), 20);
        due("height(0)", told("s009;k01;").height(0), 11);
        due("height(0)", told("s009;s119;k11;").height(0), 9);
        due("height(0)", told("s009;s119;k12;").height(0), 0);
        said("STUCK: the first STAGE (from here) at which all PARDONED, as they are, BEAR too little (SNOW 0); -9.");
        due("height(1)", new CarriedHome().height(1), 0);
        due("height(1)", told("k12;").height(1), -9);
        due("height(1)", told("k11;").height(1), 11);
        due("height(1)", told("m49;p0;l17;w9;").height(1), -9);
        due("height(1)", told("m49;p0;l18;").height(1), 0);
        due("height(1)", told("m49;p0;l17;s112;").height(1), 11);
        due("height(1)", told("m49;p0;l17;s042;s112;").height(1), 4);
        due("height(1)", told("m49;p0;l17;s042;s112;k05;").height(1), 11);
        due("height(1)", told("m49;p0;l17;s042;k05;").height(1), -9);
        due("height(1)", told("m49;m49;p0;l18;").height(1), 0);
        // "As they are": that they die on the road is not asked.
        due("height(1)", told("m09;p0;l06;").height(1), -9);
    }

    private static void mean(String text, int above, int below) {
        due("mean(0) of " + text, told(text).mean(0), above);
        due("mean(1) of " + text, told(text).mean(1), below);
    }

    private static void easedAndSo() {
        said("EASED: by how many STAGES farther THE KING is behind n DAYS, were SNOW 0 now (may be below 0).");
        CarriedHome x = told("m49;p0;l17;w9;");
        due("eased(0)", x.eased(0), 0);
        due("eased(1)", x.eased(1), 1);
        due("eased(9)", x.eased(9), 9);
        due("eased(10)", x.eased(10), 9);
        due("eased(12)", x.eased(12), 9);
        due("eased(13)", x.eased(13), 8);
        due("eased(60)", x.eased(60), 0);
        due("eased(60)", told("m49;p0;").eased(60), 0);
        due("eased(60)", told("w9;").eased(60), 0);
        due("eased(60)", told("w9;m49;p0;k12;").eased(60), 0);
        // In snow two FEUDISTS bear together on steep STAGES and are not worn; without it one alone is.
        CarriedHome y = told("m40;m40;p0;p1;l01;w9;" + slopesOf(0, 0, 0, 0, 0, 4, 4, 4, 4, 4, 4, 4));
        due("then(60, 0)", y.then(60, 0), 12);
        due("eased(60)", y.eased(60), 0);
        y = told("m43;m43;p0;p1;l01;w9;");
        tell(y, slopesOf(8, 8, 8, 8, 8, 8, 8, 8, 8, 8, 8, 8));
        due("eased(60)", y.eased(60), -4);
        said("SHOULDERS: how many of a KIND are PARDONED.");
        x = told("m39;m39;m49;m49;m09;m59;p0;p1;p2;p4;p5;l03;s000;");
        int[] shoulders = {1, 0, 0, 2, 1, 1};
        for (int kind = 0; kind < 6; kind++) {
            due("shoulders(" + kind + ")", x.shoulders(kind), shoulders[kind]);
            due("shoulders(" + kind + ")", new CarriedHome().shoulders(kind), 0);
        }
        due("shoulders(3) of the DEAD", told("m39;m39;p0;p1;l01;s002;d02;").shoulders(3), 1);
        due("shoulders(0) of eight",
                told("m00;m00;m00;m00;m00;m00;m00;m00;p0;p1;p2;p3;p4;p5;p6;p7;").shoulders(0), 8);
        said("LAME: the most DAYS one behind the other he waits in the next 60 (home ends it).");
        due("height(2)", new CarriedHome().height(2), 60);
        due("height(2)", told("k12;").height(2), 0);
        due("height(2)", told("m49;p0;").height(2), 0);
        due("height(2)", told("m49;p0;w5;").height(2), 0);
        due("height(2)", told("m49;p0;w6;").height(2), 1);
        due("height(2)", told("m49;p0;w9;k11;").height(2), 4);
        due("height(2)", told("m49;p0;s017;").height(2), 59);
        due("height(2)", told("m49;p0;s117;").height(2), 49);
        // He waits two DAYS here, three there; then three here, two there.
        due("height(2)", told("m49;p0;w9;s003;s015;").height(2), 6);
        due("height(2)", told("m49;p0;w7;s001;s015;").height(2), 3);
        due("height(2)", told("m49;p0;w9;s001;s013;").height(2), 4);
    }

    private static void imageAndCount() {
        said("THE IMAGE: all that there is of I, but it, letters, the ROW, REFUSALS.");
        CarriedHome x = new CarriedHome();
        due("restore()", x.restore(), -3);
        due("image()", x.image(), 0);
        tell(x, "m49;m39;p0;p1;s113;l60;k03;w6;d02;");
        x.row(1);
        x.feed('d');
        due("restore()", x.restore(), 0);
        due("count(0..6)", x.count(0) + x.count(1) + x.count(2) + x.count(4) + x.count(5) + x.count(6), 0);
        due("count(3)", x.count(3), 12);
        due("slope(11)", x.slope(11), 1);
        due("count(7)", x.count(7), 1);
        due("count(8)", x.count(8), 1);
        due("count(13)", x.count(13), 1);
        due("restore() again", x.restore(), 0);
        x = onDay(999);
        due("image() on 999", x.image(), 999);
        CarriedHome dead = told("m39;p0;l01;s002;d02;");
        due("image()", dead.image(), 2);
        tell(dead, "m00;p1;k12;");
        due("restore()", dead.restore(), 2);
        due("count(6)", dead.count(6), 1);
        due("count(0)", dead.count(0), 1);
        due("manOf(0, 3)", dead.manOf(0, 3), 7);
        due("man(5, 5) behind it", dead.man(5, 5), 1);
        due("manOf(1, 2): of the man taken away nothing stays", dead.manOf(1, 2), 0);
        due("manOf(1, 0)", dead.manOf(1, 0), 5);
        said("11 .. 16 REFUSALS -1 .. -6. -9 for another what.");
        x = new CarriedHome();
        for (int what = 0; what <= 16; what++) {
            due("count(" + what + ")", x.count(what), what == 10 ? -9 : what == 3 ? 12 : 0);
        }
        for (int what : new int[] {-1, -9, 10, 17, 18, 1000, Integer.MIN_VALUE, Integer.MAX_VALUE}) {
            due("count(" + what + ")", x.count(what), -9);
        }
        x.slope(-1);
        x.home(9);
        x.home(9);
        x.back();
        x.back();
        x.back();
        x.days(0);
        x.days(61);
        x.days(61);
        int[] refusals = {1, 2, 3, 1, 0, 2};
        for (int i = 0; i < 6; i++) {
            due("count(" + (11 + i) + ")", x.count(11 + i), refusals[i]);
        }
    }

    private static void days() {
        said("`int days(int n)`: n DAYS go by: where THE KING is. -4 1; -6 (60; DAY above 999).");
        CarriedHome x = onDay(939);
        due("days(60) on 939", x.days(60), 0);
        due("count(1)", x.count(1), 999);
        x = onDay(940);
        due("days(60) on 940", x.days(60), -6);
        due("days(59) on 940", x.days(59), 0);
        due("count(1)", x.count(1), 999);
        due("back()", x.back() >= 0 ? x.count(1) : -1, 940);
        x = told("m49;p0;");
        due("days(1)", x.days(1), 1);
        due("days(60)", x.days(60), 12);
    }

    public static void main(String[] args) throws IOException {
        document = Files.readString(Path.of("..", "shared", "DOC.md"));
        terms();
        bears();
        wears();
        lasts();
        needed();
        bearers();
        aDay();
        lettersOfReign();
        faultsOfReign();
        statementsThatCannotBe();
        allOrNothing();
        inMind();
        waitsAndBearing();
        mercyAndFewest();
        crownAndDig();
        keep();
        step();
        whoBoreAndWhatKind();
        twoWhoAreCondemned();
        falls();
        sharesAndRow();
        lots();
        takenBack();
        strongestAndSo();
        meanAndSo();
        easedAndSo();
        imageAndCount();
        days();
        System.out.println(wrong == 0 ? "all edges are as told" : wrong + " answers are not as due");
        if (wrong != 0) {
            System.exit(1);
        }
    }
}
