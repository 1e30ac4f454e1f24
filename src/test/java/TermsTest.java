import java.nio.charset.StandardCharsets;
import java.nio.file.Files;
import java.nio.file.Path;
import java.util.ArrayList;
import java.util.List;

/** "Terms", gone through from its first line to its last: each sentence as it stands there, and what it means. */
public final class TermsTest {
    private static final int MANY = 7;
    private static Document terms;

    private TermsTest() {
    }

    public static void main(String[] args) throws Exception {
        terms = Document.part("## Terms", "## Promise 1:");
        terms.says("## Terms");
        columnsAndMeteors();
        lookersAndKinds();
        lastsToHeat();
        stepsAndSeeing();
        yesInTime();
        aNightIsRun();
        textOfASky();
        faults();
        seenToWaiting();
        august();
        bestRoofAndRoofs();
        wed();
        rings();
        curve();
        comesAndTogether();
        clouds();
        darkOnes();
        game();
        rowOfRoofs();
        laws();
        scorchedAndMean();
        forged();
        judged();
        augusts();
        shelves();
        shelvesRefuse();
        image();
        saidOnceMore();
        refusals();
        sections(args.length > 0 ? args[0] : "src/main/java/MeteorsAreProposals.java");
        terms.ends();
        Check.end();
    }

    private static void columnsAndMeteors() {
        terms.says("==== I. COLUMNS 0 .. 15.");
        MeteorsAreProposals x = new MeteorsAreProposals();
        Check.due("column 0", Check.fall(x, 0, 0, 0, 2, 0), 0);
        Check.due("column 15", Check.fall(x, 0, 0, 15, 2, 0), 1);
        Check.due("column -1", Check.fall(x, 0, 0, -1, 2, 0), -1);
        Check.due("column 16", Check.fall(x, 0, 0, 16, 2, 0), -1);
        terms.says("METEORS 0 .. 7 as they come (8 at most), of KINDS, each with a FIGURE (0 .. 9), a COLUMN it "
            + "begins over, a SLOPE (0 .. 4; 2 less of it COLUMNS a STEP: -2 .. 2), a NIGHT (0 .. 30), FOR a LOOKER "
            + "(0 .. 4) or nobody (9).");
        MeteorsAreProposals y = Check.told("m00000000;m11011011;m22022022;m33033033;m44044304;m55150019;m66002029;"
            + "m79102209;");
        int[][] due = {{0, 0, 0, 0, 0, 0}, {1, 1, 1, 1, 1, 1}, {2, 2, 2, 2, 2, 2}, {3, 3, 3, 3, 3, 3},
            {4, 4, 4, 4, 30, 4}, {5, 5, 15, 0, 1, 9}, {6, 6, 0, 2, 2, 9}, {7, 9, 10, 2, 20, 9}};
        for (int m = 0; m < 8; m++) {
            for (int what = 0; what < 6; what++) {
                Check.due("meteor " + m + ", " + what, y.meteor(m, what), due[m][what]);
            }
        }
        Check.due("a ninth one", Check.fall(y, 0, 0, 0, 0, 0), -2);
        Check.due("there is none", y.meteor(8, 0), -1);
        MeteorsAreProposals z = Check.told("m00080009;m00081009;m00082009;m00083009;m00084009;");
        int[][] columns = {{8, 6, 4}, {8, 7, 6}, {8, 8, 8}, {8, 9, 10}, {8, 10, 12}};
        for (int slope = 0; slope < 5; slope++) {
            Check.row(z, 0, Check.BYTES, columns[slope]);
            Check.due("slope " + slope, z.curve(0, 0), 1 << slope);
        }
    }

    private static void lookersAndKinds() {
        terms.says("LOOKERS 0 .. 4: a ROOF (a COLUMN; 3 times the number at first), QUICK (0 .. 9; 5 at first), "
            + "SAID yes to a METEOR or none (9; at first).");
        MeteorsAreProposals x = new MeteorsAreProposals();
        int[] roofs = {0, 3, 6, 9, 12};
        for (int l = 0; l < 5; l++) {
            Check.due("roof of " + l, x.looker(l, 0), roofs[l]);
            Check.due("quick of " + l, x.looker(l, 1), 5);
            Check.due("said by " + l, x.looker(l, 2), 9);
        }
        Check.due("looker 5", x.looker(5, 0), -1);
        terms.says("KINDS: 0 METEOR; 1 SLOW under METEOR; 2 DARK under METEOR; 3 BALL under METEOR; 4 LONG under "
            + "SLOW; 5 SLATE under DARK; 6 TWIN under METEOR; 7 KEPT under BALL.");
        for (int kind = 0; kind < 8; kind++) {
            Check.due("kind " + kind + " falls", Check.fall(x, kind, 0, 0, 0, 0), kind);
            Check.due("kind " + kind, x.meteor(kind, 0), kind);
        }
        Check.due("kind 8", x.keep(0, 1, 8, 0), -1);
    }

    private static void lastsToHeat() {
        terms.says("LASTS (STEPS): METEOR 3 plus (FIGURE over 3, cut); SLOW twice a METEOR's; BALL 1 less; LONG 2 "
            + "more than a SLOW's; TWIN FIGURE by 2, cut, more; KEPT 1; others as what they are under.");
        ofAllKinds(6, Told.LASTS, 0);
        terms.says("BRIGHT (COLUMNS apart at which it is seen): METEOR 2; DARK -1; BALL FIGURE by 2, cut, more; "
            + "SLATE 1 more than a DARK's; SLOW 1 less; KEPT twice a BALL's; others as what they are under.");
        ofAllKinds(7, Told.BRIGHT, 10);
        terms.says("PERIOD (NIGHTS): METEOR 3 and FIGURE; SLOW 2 more; DARK twice a METEOR's; KEPT 1; TWIN as "
            + "METEOR, but 7, if FIGURE is 7 or more; others as what they are under.");
        ofAllKinds(8, Told.PERIOD, 0);
        terms.says("HEAT: METEOR FIGURE; BALL FIGURE more; SLATE 0; KEPT half of a BALL's, cut; LONG 3 less (0 at "
            + "least); others as what they are under.");
        ofAllKinds(9, Told.HEAT, 0);
    }

    private static void ofAllKinds(int what, int[][] told, int and) {
        for (int figure = 0; figure < 10; figure++) {
            MeteorsAreProposals x = new MeteorsAreProposals();
            for (int kind = 0; kind < 8; kind++) {
                Check.fall(x, kind, figure, 0, 0, 0);
                Check.due(what + " of kind " + kind + ", figure " + figure, x.meteor(kind, what),
                    told[kind][figure] + and);
            }
        }
    }

    private static void stepsAndSeeing() {
        terms.says("Behind s STEPS (0 .. LASTS less 1) a METEOR is over COLUMN and s times (SLOPE less 2), 0 at "
            + "least, 15 at most.");
        MeteorsAreProposals x = Check.told("m09030009;m09124009;");
        Check.row(x, 0, Check.BYTES, 3, 1, 0, 0, 0, 0);
        Check.due("0 at least", x.curve(0, 0), 1);
        Check.row(x, 0, Check.BYTES, 12, 14, 15, 15, 15, 15);
        Check.due("15 at most", x.curve(0, 0), 2);
        Check.row(x, 0, Check.BYTES, 12, 14, 15, 15, 15, 15, 15);
        Check.due("six steps", x.curve(0, 0), 0);
        terms.says("A LOOKER SEES it in such a STEP, if its COLUMN is no more than BRIGHT from her ROOF.");
        // over 3, 4, .. 8, and BRIGHT 2
        MeteorsAreProposals y = Check.told("m09033009;");
        int[] roofs = {0, 1, 3, 5, 6, 10, 11};
        int[] due = {0, 0b1, 0b111, 0b11111, 0b111110, 0b100000, 0};
        for (int i = 0; i < roofs.length; i++) {
            y.looks(0, roofs[i], 9);
            Check.due("seen from " + roofs[i], y.seen(0, 0, 0), due[i]);
        }
    }

    private static void yesInTime() {
        terms.says("NEED of a LOOKER: 4 less QUICK by 3, cut (STEPS, 1 .. 4).");
        terms.says("She SAYS yes in the STEP in which she SEES it the NEED-th time, if there is one.");
        MeteorsAreProposals x = Check.told("m09033009;");
        int[] need = {4, 4, 4, 3, 3, 3, 2, 2, 2, 1};
        for (int quick = 0; quick < 10; quick++) {
            x.looks(0, 6, quick);
            Check.due("need of " + quick, x.looker(0, 3), need[quick]);
            // from step 1 on
            Check.due("yes of " + quick, x.seen(0, 0, 1), need[quick]);
            x.looks(0, 10, quick);
            Check.due("of one step, yes of " + quick, x.seen(0, 0, 1), quick == 9 ? 5 : -4);
        }
        terms.says("TAKEN: the one who SAYS so first (in the least STEP, of several the least); nobody: it FALLS.");
        MeteorsAreProposals y = Check.told("m09033009;");
        Check.due("looker 1 in step 2, looker 2 in step 3", y.taker(0), 1);
        y.looks(2, 5, 5);
        Check.due("both in step 2", y.taker(0), 1);
        y.looks(2, 5, 6);
        Check.due("looker 2 in step 1", y.taker(0), 2);
        for (int l = 0; l < 5; l++) {
            y.looks(l, 15, 9);
        }
        Check.due("it falls", y.taker(0), -4);
        Check.due("it falls in its night", y.run(0), 0);
    }

    private static void aNightIsRun() {
        terms.says("A NIGHT is run: METEORS of it that nobody has SAID yes to, by numbers: of those LOOKERS who "
            + "have SAID yes to none the one who takes it SAYS yes to it.");
        // lookers 1 and 2 say yes to each of them in step 2, the others to none
        MeteorsAreProposals x = Check.told("m00032049;m00032049;m00032059;l2045;");
        Check.due("two of night 4", x.run(4), 2);
        Check.due("by numbers the first is taken", x.looker(1, 2), 0);
        Check.due("of those left the one who takes it", x.looker(2, 2), 1);
        Check.due("nobody is left", x.run(5), 0);
        Check.due("free again", x.free(1), 0);
        Check.due("of night 5", x.run(5), 1);
        Check.due("nobody is left for the first", x.run(4), 0);
        Check.due("free again", x.free(2), 1);
        Check.due("one of the two", x.run(4), 1);
        Check.due("the first of the two", x.looker(2, 2), 0);
        Check.due("said yes to already", x.run(5), 0);
    }

    private static void textOfASky() {
        terms.says("THE TEXT of a SKY stands in a ROW of bytes on a SHELF: STATEMENTS, each with \";\" behind, one "
            + "at least:");
        MeteorsAreProposals x = new MeteorsAreProposals();
        Check.due("no statement", Check.text(x, 0, ""), -1000);
        Check.due("nothing behind", Check.text(x, 0, "f0"), -1002);
        Check.due("a statement", Check.text(x, 0, "f0;"), 1);
        Check.row(x, 0, Check.SHORTS, 'f', '0', ';');
        Check.due("no bytes", x.sky(0), -12);
        terms.says("\"m\" KIND, FIGURE (a digit each), COLUMN (2 digits), SLOPE (a digit), NIGHT (2 digits), FOR (a "
            + "digit): a METEOR more;");
        MeteorsAreProposals y = Check.told("m00000000;m61102303;");
        int[] due = {6, 1, 10, 2, 30, 3};
        for (int what = 0; what < 6; what++) {
            Check.due("what is told, " + what, y.meteor(1, what), due[what]);
        }
        terms.says("\"l\" a LOOKER (a digit), ROOF (2 digits), QUICK (a digit);");
        MeteorsAreProposals z = Check.told("l3127;");
        Check.due("roof", z.looker(3, 0), 12);
        Check.due("quick", z.looker(3, 1), 7);
        terms.says("\"r\" a NIGHT (2 digits): it is run;");
        Check.due("night 30 is run", Check.told("m00032309;r30;").looker(1, 2), 0);
        Check.due("night 29 is run", Check.told("m00032309;r29;").looker(1, 2), 9);
        terms.says("\"f\" a LOOKER (a digit): she has SAID yes to none.");
        Check.due("she is free", Check.told("m00032309;r30;f1;").looker(1, 2), 9);
        Check.due("another one is", Check.told("m00032309;r30;f0;").looker(1, 2), 0);
    }

    private static void fault(String text, int due) {
        MeteorsAreProposals x = new MeteorsAreProposals();
        Check.due("fault of " + text, Check.text(x, 0, text), due);
        Check.due("nothing has come of " + text, x.count(0), 0);
        Check.due("nothing has come of " + text, x.looker(0, 0), 0);
    }

    private static void faults() {
        terms.says("FAULT: kind 1 the place of the first byte with which no SKY can go on (the end, if something "
            + "lacks): -1000 less the place;");
        String[] badBytes = {"f0;m0x", "f0;m00", "f0;;", " f0;", "f00;", "f;", "l0157;x", "f0; f0;", "f0;g0;"};
        int[] places = {5, 6, 3, 0, 2, 1, 6, 3, 3};
        for (int i = 0; i < badBytes.length; i++) {
            fault(badBytes[i], -1000 - places[i]);
        }
        terms.says("else kind 2 the place of the letter of the first STATEMENT that is not as it must be (a number "
            + "out of range, FOR 5 .. 8, no room): -2000 less the place.");
        String[] badOnes = {"m80032309;", "m00162309;", "m00035309;", "m00032319;", "m00032305;", "m00032306;",
            "m00032307;", "m00032308;", "l5000;", "l0160;", "r31;", "f5;"};
        for (String bad : badOnes) {
            fault("l0157;" + bad, -2006);
        }
        fault("f0;" + "m00032309;".repeat(9), -2083);
        fault("f5;f0;x", -1006);
        fault("f0;f6;f5;", -2003);
        terms.says("Without FAULT all of it comes, with one nothing.");
        fault("l0157;m00032309;f5;", -2016);
        MeteorsAreProposals x = new MeteorsAreProposals();
        Check.due("without fault", Check.text(x, 0, "l0157;m00032309;f4;"), 3);
        Check.due("all of it", x.looker(0, 0), 15);
        Check.due("all of it", x.count(0), 1);
    }

    private static void seenToWaiting() {
        terms.says("==== II. SEEN: STEPS (bits) in which a LOOKER SEES a METEOR; YES: the STEP in which she SAYS "
            + "yes; -4.");
        MeteorsAreProposals x = Check.told("m00032009;m00032009;m20032009;r00;");
        Check.due("seen by looker 1", x.seen(1, 0, 0), 0b111);
        Check.due("seen by looker 0", x.seen(0, 0, 0), 0);
        Check.due("yes of looker 1", x.seen(1, 0, 1), 2);
        Check.due("yes of looker 0", x.seen(0, 0, 1), -4);
        terms.says("TAKER (of all LOOKERS, whatever they have SAID); -4.");
        Check.due("she has said yes to it", x.taker(0), 1);
        Check.due("she has said yes to another one", x.taker(1), 1);
        Check.due("of a dark one", x.taker(2), -4);
        terms.says("UNSEEN: METEORS (bits) nobody SEES.");
        MeteorsAreProposals y = Check.told("m50022009;m50032009;m20032009;");
        Check.due("a slate between roofs, and a dark one", y.unseen(), 0b101);
        terms.says("MISTAKES: METEORS (bits) SAID yes to by another one than they are FOR (FOR nobody: by anybody).");
        MeteorsAreProposals z = Check.told("m50032001;m50062000;m50092009;m50122004;m50012000;r00;");
        Check.due("of another one, and of nobody", z.mistakes(), 0b0110);
        terms.says("WAITING: LOOKERS (bits) who have SAID none.");
        Check.due("looker 0", z.waiting(), 0b1);
        Check.due("all of them", new MeteorsAreProposals().waiting(), 0b11111);
    }

    private static void august() {
        terms.says("AUGUST: all NIGHTS 0 .. 30 run now: how many METEORS are SAID yes to then; how many MISTAKES.");
        MeteorsAreProposals x = Check.told("m50032001;m50062300;m50092159;m50012049;");
        Check.due("said yes to", x.august(0), 3);
        Check.due("mistakes", x.august(1), 2);
        Check.due("nothing has changed", x.waiting(), 0b11111);
        Check.due("one ahead of it", x.run(30), 1);
        Check.due("that one, too", x.august(0), 3);
        Check.due("that one, too", x.august(1), 2);
    }

    private static void bestRoofAndRoofs() {
        terms.says("BEST ROOF for a LOOKER: the COLUMN from which she would SAY yes to most of all METEORS, of "
            + "several the least; how many.");
        MeteorsAreProposals x = Check.told("m50022009;m50092009;m50092009;m50042009;m50042009;l1002;");
        Check.due("of 4 and 9 the least", x.bestRoof(0, 0), 4);
        Check.due("two there", x.bestRoof(0, 1), 2);
        Check.due("she needs four steps: nowhere", x.bestRoof(1, 1), 0);
        Check.due("of all the least", x.bestRoof(1, 0), 0);
        terms.says("ROOFS: the fewest COLUMNS (bits, of several the least; 4 at most) from which together all that "
            + "are BRIGHT 0 or more are SEEN in some STEP; -4.");
        Check.due("of none none", new MeteorsAreProposals().roofs(), 0);
        Check.due("of 1 .. 5 the least", Check.told("m00032009;m20152009;").roofs(), 0b10);
        Check.due("of 1 .. 7 and 7 .. 9, in some step", Check.told("m00033009;m50073009;").roofs(), 0b10000000);
        MeteorsAreProposals y = Check.told("m50012009;m50052009;m50072009;m20132009;m50112009;");
        Check.due("four", y.roofs(), 0b100010100010);
        Check.fall(y, 5, 0, 13, 2, 0);
        Check.due("five are too many", y.roofs(), -4);
    }

    private static void wed() {
        terms.says("WED (of all LOOKERS, whatever they have SAID): LOOKERS would rather METEORS of more HEAT (of "
            + "several the least), METEORS rather the one they are FOR, then more QUICK (then the least); only "
            + "those she SAYS yes to; by turns LOOKERS ask, METEORS keep whom they would rather: the METEOR of one; "
            + "-4.");
        // all of 0 .. 3 want meteor 0, which keeps 2; the others want 1 of 1 and 2, which keeps 3; 2 keeps 0
        String text = "m09032002;m04032009;m04032009;l0035;l1035;l2033;l3039;";
        int[] due = {2, -4, 0, 1, -4};
        for (int l = 0; l < 5; l++) {
            Check.due("meteor of " + l, Check.told(text).wed(l), due[l]);
            Check.due("whatever is said, of " + l, Check.told(text + "r00;").wed(l), due[l]);
        }
    }

    private static void rings() {
        terms.says("RINGS: if LOOKERS who SAID yes to a METEOR each changed among them (each has one of these "
            + "then): the most METEORS that could be had by whom they are FOR; how few LOOKERS have another one "
            + "than now by that.");
        // 0, 1, 2 said those that are for 1, 2, 0; that of 3 is for 4, who said none
        MeteorsAreProposals x = Check.told("m50002001;m50032002;m50062000;m50092004;r00;");
        Check.due("four said yes", x.waiting(), 0b10000);
        Check.due("three by a ring", x.rings(0), 3);
        Check.due("three have another one", x.rings(1), 3);
        // 1 has hers; 0 and 2 would have another one for nothing
        MeteorsAreProposals y = Check.told("m50002009;m50032001;m50062003;r00;");
        Check.due("one has hers", y.rings(0), 1);
        Check.due("nobody needs to change", y.rings(1), 0);
    }

    private static void curve() {
        terms.says("CURVE: a ROW tells COLUMNS behind STEPS 0, 1, .. (the least number of the SORT is skipped): "
            + "METEORS (bits) that go so (LASTS long enough); how many; NEXT: the COLUMN (told by most of these, of "
            + "several the least) one STEP behind the ROW; -4.");
        // two over 5, 6, 7, 8, one over 5, 6, 7, one over 5 six times
        MeteorsAreProposals x = Check.told("m03053009;m00053009;m09052009;m03053009;");
        int[] leasts = {-128, -32768, Integer.MIN_VALUE};
        for (int sort = 0; sort < 3; sort++) {
            Check.row(x, 0, sort, 5, leasts[sort], 7);
            curveIs(x, 0b1011, 3, 8);
        }
        Check.row(x, 0, Check.SHORTS, 5, -128, 7);
        curveIs(x, 0, 0, -4);
        Check.row(x, 0, Check.BYTES, 5);
        curveIs(x, 0b1111, 4, 6);
        Check.row(x, 0, Check.BYTES, 5, 6, 7, 8);
        curveIs(x, 0b1001, 2, -4);
        Check.row(x, 0, Check.BYTES);
        curveIs(x, 0b1111, 4, 5);
        MeteorsAreProposals y = Check.told("m03053009;m03051009;");
        Check.row(y, 0, Check.BYTES, 5);
        curveIs(y, 0b11, 2, 4);
    }

    private static void curveIs(MeteorsAreProposals x, int bits, int many, int next) {
        Check.due("curve", x.curve(0, 0), bits);
        Check.due("how many go so", x.curve(0, 1), many);
        Check.due("next", x.curve(0, 2), next);
    }

    private static void comesAndTogether() {
        terms.says("COMES: the first NIGHT v (0 .. 365) or later, up to 365, on which a METEOR is there (NIGHT and "
            + "PERIOD times 0, 1, ..); -4;");
        // every five nights from 10 on; every 24 from 0 on
        MeteorsAreProposals x = Check.told("m02002109;m29002009;");
        int[] nights = {0, 10, 11, 15, 361, 365};
        int[] due = {10, 10, 15, 15, 365, 365};
        for (int i = 0; i < nights.length; i++) {
            Check.due("comes from " + nights[i], x.comes(0, nights[i]), due[i]);
        }
        Check.due("the last one of the year", x.comes(1, 360), 360);
        Check.due("none behind it", x.comes(1, 361), -4);
        Check.due("no night of the year", x.comes(0, 366), -1);
        terms.says("TOGETHER: the first one (0 .. 365) on which two are; -4.");
        MeteorsAreProposals y = Check.told("m00002019;m01002009;m20002009;m20002019;");
        Check.due("1, 4, .. and 0, 4, ..", y.together(0, 1), 4);
        Check.due("0, 4, .. and 0, 6, ..", y.together(1, 2), 0);
        Check.due("0, 6, .. and 1, 7, ..", y.together(2, 3), -4);
    }

    private static void clouds() {
        terms.says("CLOUDS: in each STEP, by itself, it is cloudy with odds 1 in t (2 .. 20) (she SEES nothing): "
            + "how likely a LOOKER SAYS yes to a METEOR: a fraction in least terms.");
        // two of three steps
        MeteorsAreProposals x = Check.told("m00032009;l1036;");
        int[] odds = {2, 3, 4};
        int[][] due = {{1, 2}, {20, 27}, {27, 32}};
        for (int i = 0; i < odds.length; i++) {
            Check.due("above, 1 in " + odds[i], x.clouds(1, 0, odds[i], 0), due[i][0]);
            Check.due("below, 1 in " + odds[i], x.clouds(1, 0, odds[i], 1), due[i][1]);
        }
        Check.due("never: 0", x.clouds(0, 0, 20, 0), 0);
        Check.due("by 1", x.clouds(0, 0, 20, 1), 1);
        Check.due("1 in 1", x.clouds(1, 0, 1, 0), 1000000001L);
        Check.due("1 in 21", x.clouds(1, 0, 21, 0), 1000000001L);
    }

    private static void darkOnes() {
        terms.says("DARK ONES: a ROW tells how many METEORS of NIGHTS 0, 1, .. are SEEN: the first NIGHT that has "
            + "more METEORS than that (by NIGHT alone); -4; how many more all these together have (fewer do not "
            + "count).");
        MeteorsAreProposals x = Check.told("m20002019;m20002019;m00002029;m00002049;");
        int[][] rows = {{1, 1, 1, 0, 9}, {0, 0, 0}, {0, 2, 1, 0, 0}, {0}, {}};
        int[] first = {1, 1, 4, -4, -4};
        int[] more = {1, 3, 1, 0, 0};
        for (int i = 0; i < rows.length; i++) {
            Check.row(x, 0, Check.BYTES, rows[i]);
            Check.due("first night of row " + i, x.darkOnes(0, 0), first[i]);
            Check.due("more than row " + i, x.darkOnes(0, 1), more[i]);
        }
    }

    private static void game() {
        terms.says("GAME: a mother puts a LOOKER on one of ROOFS a, a and 5, a and 10 (a 0 .. 5), then the sky lets "
            + "a METEOR (KIND, FIGURE as those of a told one) begin over b, b and 5, b and 10 (b 0 .. 5) with its "
            + "SLOPE: she wants most STEPS SEEN, the sky fewest: that; the ROOF, of several the least.");
        // from 0, 5, 10 two columns a step; the fewest steps seen from 3, 8, 13 are 0, 1, 0; from 0, 5, 10: 0, 0, 2
        MeteorsAreProposals x = Check.told("m09014009;m50014009;");
        Check.due("steps", x.game(0, 3, 0, 0), 1);
        Check.due("the roof", x.game(0, 3, 0, 1), 8);
        Check.due("steps", x.game(0, 0, 0, 0), 2);
        Check.due("the roof", x.game(0, 0, 0, 1), 10);
        // from 5, 10, 15: three steps at least from 13
        Check.due("steps", x.game(0, 3, 5, 0), 3);
        Check.due("the roof", x.game(0, 3, 5, 1), 13);
        Check.due("none", x.game(1, 4, 0, 0), 0);
        Check.due("of several the least", x.game(1, 4, 0, 1), 4);
    }

    private static void rowOfRoofs() {
        terms.says("ROW OF ROOFS: all LOOKERS on ROOFS beside one another from COLUMN c (0 .. 11) on, by numbers: "
            + "how many METEORS are TAKEN then.");
        MeteorsAreProposals x = Check.told("m50022009;m50042009;m50062009;m50152009;l2002;");
        // looker 2 needs four steps, which no slate of these lasts
        int[] due = {1, 2, 2, 2, 1, 1, 1, 0, 0, 0, 0, 1};
        for (int c = 0; c < 12; c++) {
            Check.due("from " + c, x.rowOfRoofs(c), due[c]);
        }
        Check.due("from 12", x.rowOfRoofs(12), -1);
        Check.due("nobody has moved", x.looker(4, 0), 12);
    }

    private static void laws() {
        terms.says("LAWS: a ROW of pairs, LASTS and BRIGHT, of METEORS of one KIND with FIGURE f: KINDS (bits) of "
            + "which all are; how many.");
        MeteorsAreProposals x = new MeteorsAreProposals();
        int[][] rows = {{4, 2}, {3, 2}, {3, 2, 3, 2}, {3, 2, 3, -1}, {3, -1}, {3, 0}, {1, 6}, {}};
        int[] figures = {3, 0, 0, 0, 1, 2, 3, 3};
        int[] due = {0b1, 0b1000001, 0b1000001, 0, 0b100, 0b100000, 0b10000000, 0b11111111};
        for (int i = 0; i < rows.length; i++) {
            Check.row(x, 0, Check.BYTES, rows[i]);
            Check.due("kinds of row " + i, x.laws(0, figures[i], 0), due[i]);
            Check.due("how many of row " + i, x.laws(0, figures[i], 1), Integer.bitCount(due[i]));
        }
    }

    private static void scorchedAndMean() {
        terms.says("SCORCHED: HEAT of the METEOR a LOOKER has SAID yes to, less QUICK (0 at least; 0 none).");
        MeteorsAreProposals x = Check.told("m39002009;m01092009;r00;");
        Check.due("18 less 5", x.scorched(0), 13);
        Check.due("1 less 5", x.scorched(3), 0);
        Check.due("none", x.scorched(1), 0);
        x.looks(3, 0, 0);
        Check.due("1 less 0", x.scorched(3), 1);
        terms.says("MEAN HEAT of all METEORS: a fraction in least terms (0 by 1 of none).");
        MeteorsAreProposals y = Check.told("m09002009;m03002009;m00002009;m02002009;");
        Check.due("14 by 4, above", y.mean(0), 7);
        Check.due("14 by 4, below", y.mean(1), 2);
        Check.due("of none, above", new MeteorsAreProposals().mean(0), 0);
        Check.due("of none, below", new MeteorsAreProposals().mean(1), 1);
    }

    private static void forged() {
        terms.says("FORGED: a ROW tells TAKERS of METEORS 0, 1, .. (9 nobody): the first that is not so (no such "
            + "METEOR, too); -4.");
        MeteorsAreProposals x = Check.told("m00032009;m20032009;");
        int[][] rows = {{1, 9}, {1, -4}, {2, 9}, {1, 9, 9}, {1}, {}};
        int[] due = {-4, 1, 0, 2, -4, -4};
        for (int i = 0; i < rows.length; i++) {
            Check.row(x, 0, Check.BYTES, rows[i]);
            Check.due("log " + i, x.forged(0), due[i]);
        }
    }

    private static void judged() {
        terms.says("JUDGED: a ROW tells how many METEORS are there (by NIGHT and PERIOD, ever) on NIGHTS v, v and "
            + "1, ..: the first that is not so (the least number is skipped); -4.");
        // every three and every four nights
        MeteorsAreProposals x = Check.told("m00002009;m01002009;");
        int[][] rows = {{2, 0, 0, 1, 1}, {2, 0, 1}, {2, -128, -128, 1}, {-128, 1}, {}, {0, 0, 0}};
        int[] due = {-4, 2, -4, 1, -4, 0};
        for (int i = 0; i < rows.length; i++) {
            Check.row(x, 0, Check.BYTES, rows[i]);
            Check.due("told nights " + i, x.judge(0, 0), due[i]);
        }
        Check.row(x, 0, Check.BYTES, 0, 1, 0, 1, 1, 0, 0, 2);
        Check.due("nights 365 .. 372", x.judge(0, 365), -4);
        Check.row(x, 0, Check.BYTES, 0, 1, 0, 1, 1, 0, 0, 1);
        Check.due("night 372", x.judge(0, 365), 7);
    }

    private static void augusts() {
        terms.says("AUGUSTS with a seed z: n times (1 .. 20): ROOF of each LOOKER a DRAW below 16, QUICK below 10 "
            + "(by numbers, both of one, then the next): how many METEORS are TAKEN together; how many by whom they "
            + "are FOR.");
        terms.says("A DRAW below n: z becomes z times 1103515245 plus 12345 (an int); (z without its sign's bit "
            + "over 65536, cut) modulo n.");
        // 16838 5758 10113 17515 31051 5627 23010 7419 16212 4086: roofs 6 1 11 2 4, quick 8 5 7 9 6;
        // 2749 12767 9084 12060 32225 17543 25089 21183 25137 25566: roofs 13 12 1 1 1, quick 7 0 3 3 6
        MeteorsAreProposals x = Check.told("m50062000;m50012002;m50112009;m50002009;m50132000;");
        Check.due("taken, once", x.augusts(1, 1, 0), 3);
        Check.due("right, once", x.augusts(1, 1, 1), 1);
        Check.due("taken, twice", x.augusts(2, 1, 0), 5);
        Check.due("right, twice", x.augusts(2, 1, 1), 2);
        // of one step: only with quick 9, so by looker 3 from 2 the first time
        MeteorsAreProposals y = Check.told("m70062003;m70072003;");
        Check.due("taken from 2", y.augusts(1, 1, 0), 1);
        Check.due("by 3", y.augusts(1, 1, 1), 1);
        Check.due("not the second time", y.augusts(2, 1, 0), 1);
    }

    private static void shelves() {
        terms.says("==== III. SHELVES 0 .. 7 each hold nothing (at first), a KIND of METEOR, a ROW.");
        MeteorsAreProposals x = new MeteorsAreProposals();
        for (int d = 0; d < 8; d++) {
            Check.due("nothing at first", x.cost(d), -11);
            Check.due("a kind", x.keep(d, 1, 0, 3), 0);
            Check.due("a kind", x.cost(d), 4);
            Check.due("a row", x.row(d, 0, 1), 0);
            Check.due("a row", x.element(d, 0), 0);
            Check.due("no kind any more", x.cost(d), -12);
        }
        Check.due("shelf 8", x.cost(8), -1);
        terms.says("A ROW has a SORT (0 bytes, 1 shorts, 2 ints) and 0 .. 100 elements, 0 at first; what is put in "
            + "keeps its lowest bits.");
        int[] due = {-128, -384, -65920};
        for (int sort = 0; sort < 3; sort++) {
            Check.due("no element", x.row(0, sort, 0), 0);
            Check.due("100 elements", x.row(0, sort, 100), 0);
            Check.due("101 elements", x.row(0, sort, 101), -1);
            for (int i = 0; i < 100; i++) {
                Check.due("0 at first", x.element(0, i), 0);
            }
            x.put(0, 99, -65920);
            Check.due("lowest bits", x.element(0, 99), due[sort]);
        }
        Check.due("sort 3", x.row(0, 3, 1), -1);
    }

    private static void shelvesRefuse() {
        terms.says("Their REFUSALS: -11 nothing is held where something is wanted; -12 it is of another kind; -13 a "
            + "place that isn't there (a number or a size that isn't as told, too); -14 a size below 0; -15 a "
            + "FAILURE that is none.");
        MeteorsAreProposals x = new MeteorsAreProposals();
        Check.due("nothing is held", x.put(0, 0, 0), -11);
        x.keep(0, 1, 2, 9);
        Check.due("of another kind", x.put(0, 0, 0), -12);
        Check.due("no failure", x.toss(0), -15);
        x.row(1, 0, 1);
        Check.due("no such place", x.put(1, 1, 0), -13);
        Check.due("no such size", x.laws(1, 0, 0), -13);
        x.put(1, 0, -1);
        Check.due("no such number", x.darkOnes(1, 0), -13);
        Check.due("a size below 0", x.row(1, 0, -1), -14);
    }

    private static void image() {
        terms.says("THE IMAGE: all that there is, but SHELVES (and THE IMAGE); RESTORED all is as it was then.");
        MeteorsAreProposals x = Check.told("m50032001;m50062000;l4119;r00;");
        x.row(0, 0, 1);
        Check.due("taken", x.image(), 2);
        x.put(0, 0, MANY);
        Check.text(x, 1, "m00000000;l0151;f1;f2;");
        x.meant(1, 4);
        for (int time = 0; time < 2; time++) {
            Check.due("restored", x.restore(), 2);
            Check.due("meteors", x.count(0), 2);
            Check.due("whom they are for", x.meteor(1, 5), 0);
            Check.due("roofs", x.count(4), 0 + 3 + 6 + 9 + 11);
            Check.due("quick", x.count(3), 29);
            Check.due("what is said", x.count(5), 0b11);
            Check.due("shelves stay", x.element(0, 0), MANY);
            x.looks(0, 9, 9);
            x.free(1);
        }
    }

    private static void saidOnceMore() {
        terms.says("Said once more: of a KIND (or SORT) \"n more\", \"n less\" without more words is: than what the "
            + "one it is under has;");
        // HEAT of a LONG one: 3 less than a SLOW's; COST of a TWIN 2 more than a METEOR's
        Check.due("3 less", Check.told("m49000009;").meteor(0, 9), 6);
        terms.says("\"a by b, cut\" is a divided by b, toward 0;");
        Check.due("5 by 2", Check.told("m35000009;").meteor(0, 7), 2 + 2 + 10);
        terms.says("numbers in THE TEXT have just as many digits as told;");
        fault("r1;", -1002);
        fault("r001;", -1003);
        fault("l003;", -1004);
        terms.says("STATEMENTS are tried one behind the other, each on what those ahead of it made, and the first "
            + "that can't be done so is told (kind 2).");
        Check.due("run on what is made", Check.told("m00072009;l0079;r00;").looker(0, 2), 0);
        Check.due("run ahead of it", Check.told("m00072009;r00;l0079;").looker(0, 2), 9);
        fault("m00072009;r31;f5;", -2010);
        terms.says("The ROW of a text, and what is taken from a SHELF, stay there;");
        MeteorsAreProposals x = new MeteorsAreProposals();
        Check.due("a text", Check.text(x, 0, "m00072009;"), 1);
        Check.due("it stays", x.sky(0), 1);
        x.keep(1, 1, 4, 2);
        Check.due("a kind", x.falls(1, 0, 0, 0), 2);
        Check.due("it stays", x.cost(1), 9);
        Check.due("it falls again", x.falls(1, 0, 0, 0), 3);
        terms.says("when THE IMAGE is RESTORED, SHELVES stay as they are.");
        x.image();
        x.keep(1, 0, 0, 0);
        x.restore();
        Check.due("nothing there", x.cost(1), -11);
        Check.due("the text there", x.element(0, 0), 'm');
    }

    private static void refusals() {
        terms.says("REFUSALS (answers; nothing changes): -1 no such one, a number out of its range; -2 there is no "
            + "room; -3 it is not as it must be; -4 none.");
        MeteorsAreProposals x = Check.told("m20000009;".repeat(8));
        Check.due("no such one", x.taker(8), -1);
        Check.due("out of its range", x.looks(0, 16, 0), -1);
        Check.due("nothing changes", x.looker(0, 1), 5);
        Check.due("no room", Check.fall(x, 0, 0, 0, 0, 0), -2);
        Check.due("no image", x.restore(), -3);
        Check.due("none", x.taker(0), -4);
        terms.says("Answers of several REFUSALS are the first one as they are told at the call.");
        Check.due("-1 ahead of -11", x.falls(0, 16, 0, 0), -1);
        Check.due("-11 ahead of -2", x.falls(0, 0, 0, 0), -11);
        x.row(0, 0, 0);
        Check.due("-12 ahead of -2", x.falls(0, 0, 0, 0), -12);
        Check.due("-1 ahead of -14", x.row(8, 0, -1), -1);
        Check.due("-11 ahead of -12 and -13", x.copy(0, 5, 1, 5, -1), -11);
        terms.says("Of longs they are 1000000000 less them (-1 is told as 1000000001).");
        Check.due("of clouds", x.clouds(5, 0, 2, 0), 1000000001L);
        Check.due("of mean", x.mean(2), 1000000001L);
    }

    /** Under which of the interface's headings each call stands, and that no call stands under another one. */
    private static void sections(String file) throws Exception {
        String[] headings = {"the sky as told", "who sees", "curves, nights", "told nights",
            "the image, what is told", "shelves"};
        List<List<String>> calls = new ArrayList<>();
        for (String line : Files.readAllLines(Path.of(file), StandardCharsets.UTF_8)) {
            String trimmed = line.trim();
            if (trimmed.startsWith("// ---- ")) {
                Check.same("heading", trimmed.substring(8), calls.size() < 6 ? headings[calls.size()] : "none");
                calls.add(new ArrayList<>());
            } else if (line.matches("    public (int|long) .*")) {
                Check.that("a heading ahead of " + line, !calls.isEmpty());
                calls.get(calls.size() - 1).add(trimmed.replaceAll("public \\w+ (\\w+)\\(.*", "`$1`"));
            }
        }
        Check.due("headings", calls.size(), headings.length);
        for (int i = 0; i < calls.size(); i++) {
            String those = String.join(", ", calls.get(i));
            terms.says("Ahead of the calls " + those + " the interface says: ---- " + headings[i] + ".");
        }
    }
}
