/** Promise by promise: ordinary calls, the edges that the document names, wrong calls. */
public final class PromisesTest extends Scene {
    /** What reads, stills and names of a text tell of the one citizen, by list(2) and list(3) alone. */
    private static void e(String expression, int want) {
        MinuteForTheUnread x = with(c(0, 7, 42), c(1, 0, 0), c(0, 3, 20));
        x.set(0, 0, 55);
        int t = text(x, "reads rank; stills " + expression + "; names 0;");
        due("text " + expression, t, 1);
        x.force(1);
        due("told(2, 6) by " + expression, x.told(2, 6), want);
    }

    private static void fault(String text, int place) {
        MinuteForTheUnread x = made();
        due("text() of <" + text + ">", text(x, text), -100 - place);
        due("TEXTS after a FAULT", x.count(3), 1);
        due("THE TAPE after a FAULT", x.count(4), 0);
    }

    private static void promise1() {
        MinuteForTheUnread x = made();
        int[] counts = {0, 0, 0, 1, 0, 0};
        for (int what = 0; what < 6; what++) {
            due("count(" + what + ")", x.count(what), counts[what]);
        }
        due("SITTING", x.told(0, 0), 0);
        due("LENGTH", x.told(0, 1), 60);
        due("no CITIZEN", x.told(0, 2), -2);
        due("no ITEM", x.told(0, 8), -2);
        for (int sheet = 0; sheet < 4; sheet++) {
            due("no SHEET", x.cell(sheet, 0, 0), -11);
        }
        due("no IMAGE", x.back(), -3);
    }

    private static void promise2() {
        MinuteForTheUnread x = with(c(0, 4, 0), c(1, 2, 0));
        due("SITTING", x.set(0, 77, 999), 0);
        due("SITTING again", x.set(0, -1, 0), 999);
        due("LENGTH", x.set(1, MIN, 600), 60);
        due("LENGTH again", x.set(1, 0, 0), 600);
        due("NUMBER", x.set(2, 0, 9), 4);
        due("NUMBER again", x.set(2, 0, 0), 9);
        due("BRIBE", x.set(3, 1, 99), 0);
        due("BRIBE again", x.set(3, 1, 5), 99);
        due("the other's BRIBE", x.told(0, 3), 0);
        due("the other's NUMBER", x.told(1, 2), 2);
        int[][] bad = {{-1, 0, 0}, {4, 0, 0}, {MAX, 0, 0}, {0, 0, 1000}, {0, 0, -1}, {1, 0, 601}, {1, 0, -1},
            {2, 2, 0}, {2, -1, 0}, {2, 0, 10}, {2, 0, -1}, {3, 0, 100}, {3, 0, -1}, {3, 2, 0}, {3, MIN, 0}};
        for (int[] b : bad) {
            due("set(" + b[0] + ", " + b[1] + ", " + b[2] + ")", x.set(b[0], b[1], b[2]), -2);
        }
        int[] kept = {0, 0, 0, 0};
        for (int what = 0; what < 4; what++) {
            due("as it was, " + what, x.told(0, what), kept[what]);
        }
    }

    private static void promise3() {
        MinuteForTheUnread x = made();
        due("kind 6", x.citizen(6, 0), -2);
        due("kind -1", x.citizen(-1, 0), -2);
        due("number 10", x.citizen(0, 10), -2);
        due("number -1", x.citizen(0, -1), -2);
        for (int i = 0; i < 8; i++) {
            due("a CITIZEN", x.citizen(i % 6, i + 1), i);
            due("its KIND", x.told(i, 4), i % 6);
            due("its NUMBER", x.told(i, 2), i + 1);
            due("its BRIBE", x.told(i, 3), 0);
        }
        due("a ninth", x.citizen(0, 0), -4);
        due("a ninth that is BAD", x.citizen(6, 0), -2);
        due("how many", x.count(0), 8);
    }

    private static void promise4() {
        MinuteForTheUnread x = made();
        due("0 minutes", x.business(0), -2);
        due("1000 minutes", x.business(1000), -2);
        due("fewest minutes", x.business(MIN), -2);
        int[] minutes = {1, 999, 5, 6, 7, 8};
        for (int i = 0; i < 6; i++) {
            due("an ITEM", x.business(minutes[i]), i);
            due("it takes", x.told(i, 8), minutes[i]);
            due("it is done so far", x.told(i, 9), 0);
            due("it is not DONE", x.told(i, 10), -1);
        }
        due("a seventh", x.business(1), -4);
        due("a seventh that is BAD", x.business(0), -2);
        due("how many", x.count(1), 6);
    }

    private static void promise5() {
        MinuteForTheUnread x = with(c(0, 5, 7), c(1, 5, 0), c(2, 5, 7), c(3, 5, 0), c(4, 5, 0), c(5, 5, 7));
        int[] silences = {3, 6, 1, 11, 3, 1};
        int[] times = {1, 6, 1, 6, 1, 1};
        int[] read = {1, 1, 1, 1, 0, 0};
        for (int i = 0; i < 6; i++) {
            due("KIND of " + i, x.told(i, 4), i);
            due("READ is " + i, x.told(i, 5), read[i]);
            due("SILENCE for " + i, x.told(i, 6), silences[i]);
            due("TIME of " + i, x.told(i, 7), times[i]);
        }
        x.set(0, 0, 15);
        due("HEIR when SITTING modulo 10 is NUMBER", x.told(3, 5), 0);
        due("ORPHAN's TIME when SITTING is odd", x.told(4, 7), 0);
        x.set(3, 4, 49);
        due("ORPHAN's BRIBE, yes", x.told(4, 5), 1);
        x.set(3, 0, 0);
        x.set(3, 2, 0);
        due("CITIZEN without", x.told(0, 5), 0);
        due("POOR without", x.told(2, 5), 0);
        text(x, "reads 0; stills 3; names 1;");
        text(x, "reads 0 - 1; stills 7; names 1;");
        x.force(1);
        due("ORPHAN, not yes, BRIBE 49", x.told(4, 5), 0);
        x.set(3, 4, 50);
        due("ORPHAN, not yes, BRIBE 50", x.told(4, 5), 1);
        due("NOBLE, not yes", x.told(1, 5), 1);
        x.force(2);
        due("CITIZEN, yes of -1", x.told(0, 5), 1);
        due("POOR, yes, no BRIBE", x.told(2, 5), 0);
        due("DEAD, yes", x.told(5, 5), 0);
        due("POOR's half of 7 is cut", x.told(2, 6), 3);
        due("ORPHAN's 2 more", x.told(4, 6), 5);
        due("SITTING, of does not matter", x.told(99, 0), 15);
        due("LENGTH, of does not matter", x.told(-9, 1), 60);
        x.business(10);
        due("an ITEM's minutes", x.told(0, 8), 10);
        int[][] bad = {{0, 11}, {0, -1}, {6, 2}, {-1, 2}, {6, 7}, {MAX, 5}, {1, 8}, {-1, 9}, {1, 10}, {MIN, 10}};
        for (int[] b : bad) {
            due("told(" + b[0] + ", " + b[1] + ")", x.told(b[0], b[1]), -2);
        }
    }

    private static void promise6() {
        MinuteForTheUnread x = made();
        due("feed(256)", x.feed(256), -2);
        due("feed(-1)", x.feed(-1), -2);
        for (int i = 1; i <= 160; i++) {
            due("feed", x.feed(i % 2 * 255), i);
        }
        due("the 161st", x.feed(32), -4);
        due("the 161st that is BAD", x.feed(256), -2);
        due("bytes", x.count(4), 160);
    }

    private static void promise7() {
        MinuteForTheUnread x = made();
        String like = "reads bribe ; stills 3 ; names 1 ;";
        for (int t = 1; t <= 5; t++) {
            due("text " + t, text(x, like), t);
            due("THE TAPE", x.count(4), 0);
        }
        feed(x, "%");
        due("a seventh text, ahead of its FAULT", x.text(), -4);
        due("THE TAPE stays", x.count(4), 1);
        due("TEXTS", x.count(3), 6);
        due("no blanks", text(made(), "reads-1;stills(2)*3;names not 1and 2;"), 1);
        due("blanks", text(made(), "\n reads \n1 ; stills 1 ;names 1; \n"), 1);
        expressions();
        faults();
        boundsOfText();
    }

    private static void expressions() {
        e("number", 3);
        e("bribe", 20);
        e("sitting", 55);
        e("read", 1);
        e("rank", 2);
        e("asked", 3);
        e("1 + 2 * 3", 7);
        e("(1 + 2) * 3", 9);
        e("9 - 3 - 2", 4);
        e("- 3 + 5", 2);
        e("4 - - 3", 7);
        e("- 2 * - 5", 10);
        e("- (1 - 9)", 8);
        e("20 or 0", 1);
        e("1 or 0", 1);
        e("0 or 0", 0);
        e("20 and 30", 1);
        e("20 and 0", 0);
        e("0 and 0 or 1", 1);
        e("1 or 0 and 0", 1);
        e("not 0 and 0", 0);
        e("not 7", 0);
        e("not not 7", 1);
        e("not 1 = 2", 1);
        e("1 = 2 or 2 < 3", 1);
        e("3 < 3", 0);
        e("3 < 4", 1);
        e("- 4 < - 3", 1);
        e("4 = 4", 1);
        e("4 = 5", 0);
        e("2 + 2 = 4", 1);
        e("(2 < 3) + (3 < 2) + 5", 6);
        e("0007", 7);
        e("9999 * 9999 * 9999 < 0", 1);
        e("(((((7)))))", 7);
        e("not not not not not 0", 1);
        e("- - - - - 7 + 10", 3);
        e("(1) + ((((5))))", 6);
        e("not 0 + (0)", 1);
        e("6\n*\n2", 12);
    }

    private static void boundsOfText() {
        e("60", 60);
        e("61", 60);
        e("9999", 60);
        e("0 - 1", 0);
        MinuteForTheUnread x = with(c(0, 0, 0));
        text(x, "reads 1; stills 0; names 70;");
        text(x, "reads 9999*9999*2; stills 0; names - 7;");
        x.force(1);
        due("names above the bound", x.list(3), 60);
        x.force(2);
        due("names below the bound", x.list(3), 0);
        due("reads has no bounds", x.list(0), 1);
    }

    private static void faults() {
        String ends = " ; stills 3 ; names 1 ;";
        fault("", 0);
        fault("   ", 3);
        fault("reads", 5);
        fault("reads 1  ", 9);
        fault("reads 1 ; stills 3 ; names 1 ", 29);
        fault("reads 1 ; stills 3 ; names 1 ; 1", 31);
        fault("reads 1 ; stills 3 ; names 1 ;;", 30);
        fault("stills 1 ; reads 3 ; names 1 ;", 0);
        fault("reads 1 ; names 3 ; stills 1 ;", 10);
        fault("reads1 ; stills 3 ; names 1 ; x", 30);
        fault("reads ;", 6);
        fault("reads readsbribe" + ends, 6);
        fault("reads bribes" + ends, 6);
        fault("reads Bribe" + ends, 6);
        fault("reads reads" + ends, 6);
        fault("reads 1 2" + ends, 8);
        fault("reads 1 bribe" + ends, 8);
        fault("reads 12345" + ends, 6);
        fault("reads 00001" + ends, 6);
        fault("reads 1 +" + ends, 10);
        fault("reads 1 < 2 < 3" + ends, 12);
        fault("reads 1 = 2 < 3" + ends, 12);
        fault("reads 1 < not 2" + ends, 10);
        fault("reads 1 + not 2" + ends, 10);
        fault("reads - not 2" + ends, 8);
        fault("reads 1 not" + ends, 8);
        fault("reads or" + ends, 6);
        fault("weads 1" + ends, 0);
        fault("readsz 1" + ends, 0);
        fault("reads sank" + ends, 6);
        fault("reads \u0002" + ends, 6);
        fault("reads 1 ; stills 3 ; names 1 ;\u0000", 30);
        fault("reads * 2" + ends, 6);
        fault("reads (1" + ends, 9);
        fault("reads 1)" + ends, 7);
        fault("reads ()" + ends, 7);
        fault("reads 1 > 2" + ends, 8);
        fault("reads\t1" + ends, 5);
        fault("reads 1\r" + ends, 7);
        fault("reads \u00e9" + ends, 6);
        fault("reads ((((((1))))))" + ends, 11);
        fault("reads not not not not not not 1" + ends, 26);
        fault("reads - - - - - - 1" + ends, 16);
        fault("reads not ( - ( - ( 1" + ends, 18);
        fault("reads not (not (not -1))" + ends, 20);
        fault("reads ((((( - 1" + ends, 12);
        fault("reads ((((( not 1" + ends, 12);
    }

    private static void promise8() {
        MinuteForTheUnread x = with(c(0, 0, 0));
        text(x, "reads 1; stills 9; names 4;");
        due("force(2)", x.force(2), -2);
        due("force(-1)", x.force(-1), -2);
        due("force(MIN)", x.force(MIN), -2);
        due("force(1)", x.force(1), 0);
        due("THE RULE", x.count(5), 1);
        due("TIME by it", x.list(3), 4);
        due("force(0)", x.force(0), 1);
        due("SILENCE by it", x.list(2), 3);
        due("force(0) again", x.force(0), 0);
    }

    private static void promise9() {
        MinuteForTheUnread x = with(c(0, 0, 1), c(5, 0, 0), c(1, 9, 0), c(2, 0, 0));
        due("THE LIST", x.list(0), 5);
        due("how many", x.list(1), 2);
        due("SILENCE", x.list(2), 2);
        due("TIME", x.list(3), 11);
        due("minutes left", x.list(4), 47);
        x.set(1, 0, 13);
        due("no minutes left", x.list(4), 0);
        x.set(1, 0, 5);
        due("no minutes left, either", x.list(4), 0);
        due("list(5)", x.list(5), -2);
        due("list(-1)", x.list(-1), -2);
        text(x, "reads read < 2; stills 10 * read; names 1 + read;");
        x.force(1);
        x.set(3, 0, 9);
        x.citizen(0, 0);
        due("THE LIST by those ahead", x.list(0), 5);
        due("SILENCE by those ahead", x.list(2), 1 + 10 + 20);
        due("TIME by those ahead", x.list(3), 1 + 2 + 9);
    }

    private static void promise10() {
        MinuteForTheUnread x = with(c(0, 0, 1), c(5, 0, 0), c(1, 9, 0));
        due("by(0)", x.by(0), 3 + 1 + 6);
        due("by(7)", x.by(7), 1 + 1 + 10);
        due("by(2)", x.by(2), 3 + 1 + 6);
        due("by(8)", x.by(8), -2);
        due("by(-1)", x.by(-1), -2);
        due("by(MIN)", x.by(MIN), -2);
        text(x, "reads 1; stills 10 * read; names 1 + read;");
        x.force(1);
        due("read counts those of the LIST", x.by(6), 0 + 1 + 11);
        due("those of another", x.by(1), 1 + 1 + 20);
    }

    private static void promise11() {
        MinuteForTheUnread x = made();
        x.business(25);
        x.business(35);
        x.business(10);
        due("a SITTING", x.sit(), 2);
        due("SITTING", x.told(0, 0), 1);
        due("DONE at", x.told(0, 10), 0);
        due("all it takes", x.told(0, 9), 25);
        due("DONE at, the other", x.told(1, 10), 0);
        due("not yet", x.told(2, 9), 0);
        x.set(1, 0, 4);
        due("none", x.sit(), 0);
        due("so far", x.told(2, 9), 4);
        due("a third", x.sit(), 0);
        due("a fourth", x.sit(), 1);
        due("DONE at, the last", x.told(2, 10), 3);
        due("nothing more", x.sit(), 0);
        due("no more than it takes", x.told(2, 9), 10);
        x.set(0, 0, 998);
        due("the last but one", x.sit(), 0);
        due("SITTING is 999", x.sit(), -3);
        due("SITTING stays", x.told(0, 0), 999);
        MinuteForTheUnread y = with(c(1, 9, 0));
        y.set(1, 0, 5);
        y.business(1);
        due("no minutes are left", y.sit(), 0);
        due("it is not begun", y.told(0, 9), 0);
    }

    private static void promise12() {
        MinuteForTheUnread x = with(c(3, 2, 0));
        x.business(100);
        x.business(70);
        due("none yet", x.run(1, 0), 0);
        due("of 0 SITTINGS", x.run(0, 1), 0);
        due("minutes left over", x.run(4, 1), 57 + 57 + 52 + 57 - 170);
        due("ITEM 0 at", x.run(40, 10), 1);
        due("ITEM 1 at", x.run(40, 11), 3);
        due("not within 3", x.run(3, 11), -1);
        due("DONE at last", x.run(40, 0), 2);
        due("in thought", x.told(0, 0), 0);
        due("nothing done in thought", x.told(0, 9), 0);
        x.set(0, 0, 999);
        due("past 999", x.run(40, 11), 1001);
        x.sit();
        int[][] bad = {{-1, 0}, {41, 0}, {0, -1}, {0, 2}, {0, 9}, {0, 12}, {0, MIN}, {MAX, 10}, {0, MIN + 9}};
        for (int[] b : bad) {
            due("run(" + b[0] + ", " + b[1] + ")", x.run(b[0], b[1]), -2);
        }
        x.set(0, 0, 0);
        x.sit();
        x.sit();
        due("DONE already", x.run(0, 10), 1);
        due("DONE already counts", x.run(0, 0), 1);
    }

    private static void promise13() {
        MinuteForTheUnread x = with(c(0, 0, 0), c(5, 0, 0), c(1, 9, 0), c(2, 0, 0));
        due("SHORTEST, of like ones the least", x.shortest(0), 1);
        due("how long", x.shortest(1), 1 + 1 + 6 + 1);
        due("shortest(2)", x.shortest(2), -2);
        due("shortest(-1)", x.shortest(-1), -2);
        MinuteForTheUnread y = with(c(1, 0, 0), c(1, 0, 0), c(1, 0, 0), c(1, 0, 0), c(1, 0, 0), c(1, 0, 0), c(1, 0, 0),
            c(1, 0, 0));
        due("all of eight", y.shortest(0), 255);
        due("how long of eight", y.shortest(1), 8);
        due("of none", made().shortest(0), 0);
    }

    private static void promise14() {
        MinuteForTheUnread x = with(c(0, 0, 0), c(1, 9, 0), c(0, 0, 0));
        due("all", x.fewest(12), 7);
        due("two of three, the least bits", x.fewest(11), 5);
        due("just so", x.fewest(8), 5);
        due("none", x.fewest(7), -1);
        due("most", x.fewest(999), 7);
        due("fewest(-1)", x.fewest(-1), -2);
        due("fewest(1000)", x.fewest(1000), -2);
        due("of no CITIZENS", made().fewest(0), 0);
        MinuteForTheUnread y = with(c(1, 6, 0), c(0, 0, 0), c(0, 0, 0), c(1, 6, 0));
        text(y, "reads 0; stills 3; names 3;");
        y.force(1);
        due("of like ones the least", y.fewest(9 + 3 + 3 + 6), 7);
    }

    private static void promise15() {
        MinuteForTheUnread x = with(c(0, 0, 0), c(1, 0, 0), c(2, 0, 0), c(0, 0, 0));
        x.set(1, 0, 18);
        x.business(17);
        text(x, "reads bribe; stills 9; names 3;");
        x.force(1);
        due("within 40 by nobody", x.soonest(0, 0), -1);
        due("nor as now", x.soonest(0, 1), -1);
        x.set(1, 0, 25);
        due("of like ones the first", x.soonest(0, 0), 0);
        due("the SITTING then", x.soonest(0, 1), 2);
        x.set(3, 0, 99);
        due("it is so", x.run(40, 10), 2);
        due("one more", x.soonest(0, 0), 3);
        due("the SITTING by one more", x.soonest(0, 1), 1);
    }

    private static void promise15edges() {
        MinuteForTheUnread x = with(c(2, 0, 0), c(0, 0, 0));
        x.set(1, 0, 4);
        x.business(2);
        due("now it never is", x.run(40, 10), -1);
        due("by one BRIBE", x.soonest(0, 0), 1);
        due("then", x.soonest(0, 1), 0);
        due("BRIBES stay", x.told(1, 3), 0);
        x.set(1, 0, 60);
        due("no sooner", x.soonest(0, 0), -1);
        due("as now", x.soonest(0, 1), 0);
        x.sit();
        due("of one that is DONE", x.soonest(0, 0), -1);
        due("that in which it was", x.soonest(0, 1), 0);
        x.set(1, 0, 0);
        x.business(1);
        due("NONE", x.soonest(1, 1), -1);
        due("no ITEM 2", x.soonest(2, 0), -2);
        due("no ITEM -1", x.soonest(-1, 0), -2);
        due("soonest(0, 2)", x.soonest(0, 2), -2);
        due("soonest(0, -1)", x.soonest(0, -1), -2);
        MinuteForTheUnread y = made();
        y.set(1, 0, 1);
        y.business(40);
        y.business(1);
        due("the 40th SITTING", y.soonest(0, 1), 39);
        due("not the 41st", y.soonest(1, 1), -1);
        due("of no CITIZENS", y.soonest(0, 0), -1);
    }

    private static void promise16() {
        MinuteForTheUnread x = with(c(0, 0, 0), c(1, 0, 0), c(2, 0, 50), c(3, 0, 0), c(4, 7, 0), c(5, 0, 0), c(4, 0, 0));
        int[] want = {1, 0, 1, -1, 1, -1, 0};
        for (int i = 0; i < want.length; i++) {
            due("BRIBE for " + i, x.bribe(i), want[i]);
        }
        due("BRIBES stay", x.told(2, 3), 50);
        text(x, "reads (bribe = 99) + (60 < bribe) * (read = 3); stills 1; names 1;");
        x.force(1);
        due("99", x.bribe(0), 99);
        due("ORPHAN, by NUMBER", x.bribe(4), 70);
        x.set(2, 4, 9);
        x.set(0, 0, 1);
        due("ORPHAN, by those ahead", x.bribe(4), 90);
        x.set(3, 0, 99);
        due("ORPHAN, by those ahead who are READ", x.bribe(4), 61);
        due("of no such one", x.bribe(7), -2);
        due("of -1", x.bribe(-1), -2);
    }

    private static void promise17() {
        MinuteForTheUnread x = made();
        x.set(0, 0, 7);
        x.business(200);
        x.business(60);
        x.business(61);
        x.business(10);
        x.business(900);
        due("ORDER", x.order(0), 24315);
        due("sum", x.order(1), 7 + 8 + 9 + 12 + 27);
        x.set(1, 0, 0);
        due("none within 40: of like ones the first", x.order(0), 12345);
        due("each SITTING and 40", x.order(1), 5 * 47);
        x.set(1, 0, 600);
        x.sit();
        due("those that are not DONE", x.order(0), 5);
        due("its SITTING", x.order(1), 9);
        due("order(2)", x.order(2), -2);
        due("order(-1)", x.order(-1), -2);
        x.sit();
        x.sit();
        due("none", x.order(0), 0);
        due("none, sum", x.order(1), 0);
        MinuteForTheUnread y = with(c(3, 1, 0));
        y.set(1, 0, 3);
        y.business(41);
        y.business(40);
        due("HEIR's silence leaves none", y.order(1), 2 * 40);
        due("in thought", y.told(0, 0), 0);
        MinuteForTheUnread z = made();
        z.set(1, 0, 1);
        z.set(0, 0, 999);
        z.business(40);
        z.business(41);
        due("past 999", z.order(1), 999 + 39 + 999 + 40);
        due("past 999, ORDER", z.order(0), 12);
    }

    private static void promise18() {
        MinuteForTheUnread x = with(c(0, 0, 1), c(5, 0, 0), c(0, 0, 0), c(0, 0, 0));
        due("TURNED, of like ones the first", x.turned(0), 2);
        due("how long then", x.turned(1), 1 + 1 + 1 + 3);
        due("turned(2)", x.turned(2), -2);
        due("turned(-1)", x.turned(-1), -2);
        MinuteForTheUnread y = with(c(1, 0, 0));
        due("also if it is longer", y.turned(0), 0);
        due("longer", y.turned(1), 6);
        due("no CITIZENS", made().turned(0), -1);
        due("no CITIZENS, how long", made().turned(1), -1);
        text(x, "reads bribe; stills read; names 0;");
        x.force(1);
        due("read counts those of the LIST then", x.turned(0), 0);
        due("how long, by those ahead", x.turned(1), 1);
    }

    private static void tellsOf(MinuteForTheUnread x, int minutes, int... wants) {
        x.sheet(0, 2, 1);
        x.cell(0, 0, minutes);
        for (int i = 0; i < wants.length; i += 2) {
            due("tells(0, " + wants[i] + ") of " + minutes, x.tells(0, wants[i]), wants[i + 1]);
        }
    }

    private static void promise19() {
        MinuteForTheUnread x = with(c(0, 0, 0), c(1, 2, 0), c(5, 0, 0));
        // Silence 3, 6, 1; time 1, 3, 1.
        tellsOf(x, 7, 0, 2, 1, 2, 2, 2, 3, 1, 4, 1);
        tellsOf(x, 5, 0, 2, 1, 3, 2, 3, 3, 0, 4, 0);
        tellsOf(x, 10, 0, 2, 1, 0, 2, 0, 3, 3);
        tellsOf(x, 99, 0, 0, 1, -1, 2, 0, 3, 0, 4, 0, 10, 0, 20, 0, 30, 0, 40, -1);
        tellsOf(x, 7, 10, 1, 11, 1 + 2 + 8 + 16, 12, 2 + 4 + 16 + 32);
        tellsOf(x, 7, 20, 1023, 21, 1 << 2, 22, 1023);
        tellsOf(x, 5, 30, 99, 40, 1, 31, 0, 41, -1);
        tellsOf(x, 7, 30, 1, 40, 0, 31, 100, 41, 0);
        text(x, "reads 1; stills 1; names 2;");
        text(x, "reads 0; stills 3; names 1;");
        tellsOf(x, 7, 4, 1 << 0 | 1 << 1 | 1 << 2);
        due("THE RULE stays", x.count(5), 0);
        due("KIND, NUMBER, BRIBE stay", x.told(1, 4) * 100 + x.told(1, 2) * 10 + x.told(1, 3), 120);
        promise19edges(x);
    }

    private static void promise19edges(MinuteForTheUnread x) {
        int[][] bad = {{-1, 0}, {4, 0}, {0, -1}, {0, 5}, {0, 9}, {0, 13}, {0, 19}, {0, 23}, {0, 33}, {0, 43}, {0, 50},
            {0, MIN}, {0, MAX}, {3, 5}, {3, 13}};
        for (int[] b : bad) {
            due("tells(" + b[0] + ", " + b[1] + ")", x.tells(b[0], b[1]), -2);
        }
        due("a missing one", x.tells(3, 0), -11);
        x.sheet(3, 0, 0);
        due("it tells none", x.tells(3, 0), -2);
        x.sheet(3, 0, 2);
        due("it tells 2", x.tells(3, 0), -2);
        x.sheet(3, 0, 1);
        x.cell(3, 0, 256 + 7);
        due("a byte", x.tells(3, 0), 2);
        x.sheet(3, 1, 1);
        x.cell(3, 0, 65536 + 7);
        due("a short", x.tells(3, 0), 2);
        MinuteForTheUnread y = with(c(3, 9, 0), c(3, 9, 0), c(3, 9, 0), c(3, 9, 0));
        text(y, "reads 1; stills 60; names 60;");
        y.force(1);
        y.sheet(0, 0, 1);
        y.cell(0, 0, 20);
        due("276 is no byte", y.tells(0, 0), 0);
        y.sheet(0, 1, 1);
        y.cell(0, 0, 276);
        due("276 is a short", y.tells(0, 0), 1);
    }

    private static void promise20() {
        MinuteForTheUnread x = with(c(1, 9, 0), c(0, 0, 0));
        x.sheet(2, 0, 40);
        due("film", x.film(2), 13);
        due("it tells one number", x.cell(2, 1, 0), -12);
        due("that number", x.tells(2, 1), x.list(0));
        x.sheet(1, 2, 1);
        due("it is of ints", x.copy(2, 0, 1, 0, 1), 1);
        due("a missing one", x.film(0), 13);
        due("film(4)", x.film(4), -2);
        due("film(-1)", x.film(-1), -2);
    }

    private static void promise21() {
        MinuteForTheUnread x = with(c(0, 0, 7), c(0, 0, 0));
        text(x, "reads bribe = 24 or bribe = 97; stills 1; names 1;");
        x.force(1);
        int first = (12345 >>> 9) % 100;
        int second = (12345 * 1103515245 + 12345 >>> 9) % 100;
        due("the first of SEED 0 is 24", first, 24);
        due("the second of SEED 0 is not", second == 24 || second == 97 ? 1 : 0, 0);
        due("drawn(0)", x.drawn(0), 1);
        due("BRIBES stay", x.told(0, 3), 7);
        due("of none", made().drawn(5), 0);
        MinuteForTheUnread z = with(c(0, 0, 0));
        text(z, "reads bribe = 24; stills 1; names 1;");
        text(z, "reads bribe = 0; stills 1; names 1;");
        z.force(1);
        due("the first by SEED 0", z.drawn(0), 1);
        int seed = 0;
        while ((seed * 1103515245 + 12345 >>> 9) % 100 != 0) {
            seed++;
        }
        z.force(2);
        due("a BRIBE of 0 by SEED " + seed, z.drawn(seed), 1);
        MinuteForTheUnread y = with(c(1, 0, 0), c(5, 0, 0), c(3, 1, 0));
        due("by KINDS", y.drawn(MIN), 2);
    }

    private static void promise22() {
        MinuteForTheUnread x = with(c(0, 0, 0));
        text(x, "reads bribe < 50; stills 2; names 1;");
        x.force(1);
        x.set(1, 0, 1);
        int fits = 0;
        for (int i = 0; i < 20; i++) {
            fits += x.drawn(100 + i);
        }
        int divisor = java.math.BigInteger.valueOf(fits).gcd(java.math.BigInteger.valueOf(20)).intValue();
        due("above", x.chance(100, 20, 0), fits / divisor);
        due("below", x.chance(100, 20, 1), 20 / divisor);
        x.set(1, 0, 0);
        due("0 above", x.chance(5, 6, 0), 0);
        due("0 below", x.chance(5, 6, 1), 1);
        x.set(1, 0, 2);
        due("all above", x.chance(MAX, 6, 0), 1);
        due("all below", x.chance(MAX, 6, 1), 1);
        long no = -4611686018427387904L;
        due("of 2 all", x.chance(7, 2, 1), 1);
        due("m 1", x.chance(7, 1, 0), 1);
        due("m 0", x.chance(0, 0, 0), no);
        due("m 21", x.chance(0, 21, 0), no);
        due("m MIN", x.chance(0, MIN, 0), no);
        due("part 2", x.chance(0, 1, 2), no);
        due("part -1", x.chance(0, 1, -1), no);
    }

    private static void promise23and24() {
        MinuteForTheUnread x = with(c(0, 4, 5), c(1, 6, 7));
        due("no IMAGE", x.back(), -3);
        x.set(0, 0, 11);
        x.set(1, 0, 20);
        x.business(30);
        x.business(50);
        x.sit();
        text(x, "reads 1; stills 2; names 2;");
        x.force(1);
        due("image", x.image(), 2);
        x.set(0, 0, 500);
        x.set(1, 0, 600);
        x.set(2, 0, 9);
        x.set(3, 1, 99);
        x.citizen(5, 5);
        x.business(8);
        x.sit();
        x.force(0);
        feed(x, "reads");
        x.sheet(0, 1, 2);
        due("text 2 came", x.count(4), 5);
        for (int again = 0; again < 2; again++) {
            due("back", x.back(), 2);
            asOfImage(x);
            x.sit();
            x.citizen(3, 3);
            x.set(2, 0, 1);
            x.force(0);
        }
        due("a newer IMAGE", x.image(), 3);
        due("back to it", x.back(), 3);
        due("its NUMBER", x.told(0, 2), 1);
        due("of none", made().image(), 0);
    }

    private static void asOfImage(MinuteForTheUnread x) {
        int[][] told = {{0, 0, 12}, {0, 1, 20}, {0, 2, 4}, {1, 3, 7}, {1, 4, 1}, {0, 8, 30}, {0, 9, 12}, {0, 10, -1},
            {2, 2, -2}, {2, 8, -2}};
        for (int[] t : told) {
            due("told(" + t[0] + ", " + t[1] + ")", x.told(t[0], t[1]), t[2]);
        }
        int[] counts = {2, 2, 0, 2, 5, 1};
        for (int what = 0; what < 6; what++) {
            due("count(" + what + ")", x.count(what), counts[what]);
        }
        due("SHEETS are not kept", x.cell(0, 1, 1), 1);
    }

    private static void promise25() {
        MinuteForTheUnread x = with(c(0, 0, 0), c(0, 0, 0), c(0, 0, 0));
        x.business(1);
        x.business(2);
        x.business(600);
        x.sit();
        text(x, "reads 1;stills 1;names 1;");
        x.force(1);
        feed(x, "not");
        feed(x, "not");
        int[] wants = {3, 3, 2, 2, 6, 1};
        for (int what = 0; what < 6; what++) {
            due("count(" + what + ")", x.count(what), wants[what]);
        }
        due("count(6)", x.count(6), -2);
        due("count(-1)", x.count(-1), -2);
    }

    private static void promise26() {
        MinuteForTheUnread x = made();
        due("bytes", x.sheet(0, 0, 40), 1);
        due("shorts", x.sheet(1, 1, 0), 1);
        due("ints", x.sheet(3, 2, 1), 1);
        due("the last item", x.cell(0, 39, 1), 1);
        due("no item", x.cell(1, 0, 1), -12);
        x.cell(3, 0, 9);
        x.sheet(3, 2, 1);
        due("all 0", x.tells(3, 0), 1);
        due("missing", x.sheet(0, -1, -77), 1);
        due("it is missing", x.cell(0, 0, 0), -11);
        due("missing again", x.sheet(0, -1, 99), 1);
        int[][] wrong = {{4, 0, 1, -2}, {-1, 0, 1, -2}, {1, 3, 1, -2}, {1, -2, 1, -2}, {1, 0, 41, -2}, {1, 0, -1, -14},
            {1, 2, MIN, -14}, {1, 2, MAX, -2}, {1, 3, -1, -2}, {4, 0, -1, -2}};
        for (int[] w : wrong) {
            due("sheet(" + w[0] + ", " + w[1] + ", " + w[2] + ")", x.sheet(w[0], w[1], w[2]), w[3]);
        }
        due("as it was", x.copy(1, 0, 1, 0, 0), 0);
    }

    private static void promise27() {
        MinuteForTheUnread x = made();
        x.sheet(0, 2, 3);
        due("the first", x.cell(0, 0, 5), 1);
        due("the last", x.cell(0, 2, 5), 1);
        due("behind", x.cell(0, 3, 5), -12);
        due("ahead", x.cell(0, -1, 5), -12);
        due("far", x.cell(0, MAX, 5), -12);
        due("missing", x.cell(1, 0, 5), -11);
        due("missing and outside", x.cell(1, -1, 5), -11);
        due("no such", x.cell(4, 0, 5), -2);
        due("no such, below", x.cell(-1, 0, 5), -2);
        x.sheet(2, 0, 2);
        x.cell(2, 0, 256);
        x.cell(2, 1, 256 + 9);
        due("lowest 8 bits", x.citizens(2, 0, 0, 1), 1);
        due("lowest 8 bits, NUMBER", x.told(0, 2), 9);
        x.sheet(2, 1, 4);
        x.cell(2, 0, 65536 + 1);
        x.cell(2, 1, -65536 + 8);
        x.cell(2, 2, 256);
        due("lowest 16 bits", x.citizens(2, 1, 0, 2), 1);
        due("lowest 16 bits, KIND", x.told(1, 4), 1);
        due("lowest 16 bits, NUMBER", x.told(1, 2), 8);
        x.sheet(2, 2, 2);
        x.cell(2, 0, 65536);
        due("ints keep all", x.citizens(2, 2, 0, 1), 0);
    }

    /** The numbers of a sheet of ints, read back as NUMBERS of new citizens; they are 0 .. 9. */
    private static void digits(MinuteForTheUnread x, int sheet, int... wants) {
        for (int i = 0; i < wants.length; i++) {
            x.sheet(3, 2, 2);
            x.copy(sheet, i, 3, 1, 1);
            x.image();
            x.citizens(3, 2, 0, 1);
            due("item " + i, x.told(0, 2), wants[i]);
            x.back();
        }
    }

    private static MinuteForTheUnread rows() {
        MinuteForTheUnread x = made();
        x.image();
        x.sheet(0, 2, 5);
        x.sheet(1, 2, 3);
        for (int i = 0; i < 5; i++) {
            x.cell(0, i, i + 1);
        }
        return x;
    }

    private static void promise28() {
        MinuteForTheUnread x = rows();
        due("copy", x.copy(0, 2, 1, 1, 2), 2);
        digits(x, 1, 0, 3, 4);
        due("up in itself", x.copy(0, 0, 0, 1, 4), 4);
        digits(x, 0, 1, 1, 2, 3, 4);
        x = rows();
        due("down in itself", x.copy(0, 1, 0, 0, 4), 4);
        digits(x, 0, 2, 3, 4, 5, 5);
        int[][] wrong = {{4, 0, 0, 0, 0, -2}, {0, 0, 4, 0, 0, -2}, {-1, 0, 0, 0, 0, -2}, {0, 0, -1, 0, 0, -2},
            {0, 0, 2, 0, 1, -11}, {2, 0, 0, 0, 1, -11}, {2, -1, 2, 0, 1, -11}, {0, 0, 1, 0, 4, -12}, {0, 2, 1, 0, 4, -12},
            {0, 3, 1, 0, 3, -12}, {0, 0, 1, 1, 3, -12}, {0, -1, 1, 0, 1, -12}, {0, 0, 1, -1, 1, -12},
            {0, 0, 1, 0, -1, -12}, {0, 6, 1, 0, 0, -12}, {0, 0, 1, 4, 0, -12}, {0, MAX, 1, 0, 1, -12},
            {0, 1, 1, 0, MAX, -12}, {0, 1, 1, 1, MIN, -12}, {0, 5, 1, 3, 0, 0}};
        for (int[] w : wrong) {
            due("copy(" + w[0] + ", " + w[1] + ", " + w[2] + ", " + w[3] + ", " + w[4] + ")",
                x.copy(w[0], w[1], w[2], w[3], w[4]), w[5]);
        }
        digits(x, 1, 0, 0, 0);
        x.sheet(2, 1, 3);
        due("of unlike sorts", x.copy(0, 0, 2, 0, 1), -13);
        due("of unlike sorts and outside", x.copy(2, 9, 0, 0, -1), -13);
    }

    private static void promise29() {
        MinuteForTheUnread x = made();
        x.sheet(0, 1, 9);
        int[] row = {5, 9, 6, 0, 1, 10, 2, 7, 3};
        for (int i = 0; i < row.length; i++) {
            x.cell(0, i, row[i]);
        }
        due("n of them, others are left out", x.citizens(0, 1, 0, 4), 2);
        due("KINDS", x.told(0, 4) * 10 + x.told(1, 4), 52);
        due("NUMBERS", x.told(0, 2) * 10 + x.told(1, 2), 97);
        due("what stood ahead came", x.citizens(0, 1, 6, 2), -12);
        due("how many", x.count(0), 3);
        int[][] wrong = {{4, 1, 0, 0, -2}, {-1, 1, 0, 0, -2}, {0, 3, 0, 0, -2}, {0, -1, 0, 0, -2}, {0, 1, 0, 9, -2},
            {0, 1, 0, -1, -2}, {0, 0, 0, 0, -13}, {0, 2, -1, 1, -13}, {1, 1, 0, 0, -11}, {0, 1, -1, 1, -12},
            {0, 1, 8, 1, -12}, {0, 1, 9, 1, -12}, {0, 1, MAX, 1, -12}, {0, 1, MIN, 8, -12}, {0, 1, -5, 0, 0},
            {0, 1, 99, 0, 0}};
        for (int[] w : wrong) {
            due("citizens(" + w[0] + ", " + w[1] + ", " + w[2] + ", " + w[3] + ")",
                x.citizens(w[0], w[1], w[2], w[3]), w[4]);
        }
        due("how many still", x.count(0), 3);
        x.sheet(1, 2, 16);
        due("till it is full", x.citizens(1, 2, 0, 8), 5);
        due("full", x.citizens(1, 2, 0, 8), 0);
        due("full and outside", x.citizens(1, 2, 14, 2), -12);
    }

    private static void promise30() {
        MinuteForTheUnread x = with(c(0, 1, 0), c(1, 2, 0), c(2, 3, 0), c(3, 4, 0), c(4, 5, 0), c(5, 6, 0));
        String[] under = {"0", "01", "02", "013", "024", "05"};
        for (int i = 0; i < 6; i++) {
            for (int k = 0; k < 6; k++) {
                int want = under[i].indexOf('0' + k) >= 0 ? i + 1 : -13;
                due("taken(" + i + ", " + k + ")", x.taken(i, k), want);
            }
        }
        due("kind 6", x.taken(0, 6), -2);
        due("kind -1", x.taken(0, -1), -2);
        due("kind 6 of no such", x.taken(9, 6), -2);
        due("no such", x.taken(6, 0), -11);
        due("no such, below", x.taken(-1, 0), -11);
    }

    public static void main(String[] args) {
        String[] names = new String[31];
        for (int i = 1; i <= 30; i++) {
            names[i] = "promise " + i;
        }
        check.about(names[1]);
        promise1();
        check.about(names[2]);
        promise2();
        check.about(names[3]);
        promise3();
        check.about(names[4]);
        promise4();
        check.about(names[5]);
        promise5();
        check.about(names[6]);
        promise6();
        check.about(names[7]);
        promise7();
        check.about(names[8]);
        promise8();
        check.about(names[9]);
        promise9();
        check.about(names[10]);
        promise10();
        check.about(names[11]);
        promise11();
        check.about(names[12]);
        promise12();
        check.about(names[13]);
        promise13();
        check.about(names[14]);
        promise14();
        check.about(names[15]);
        promise15();
        promise15edges();
        check.about(names[16]);
        promise16();
        check.about(names[17]);
        promise17();
        check.about(names[18]);
        promise18();
        check.about(names[19]);
        promise19();
        check.about(names[20]);
        promise20();
        check.about(names[21]);
        promise21();
        check.about(names[22]);
        promise22();
        check.about("promises 23, 24");
        promise23and24();
        check.about(names[25]);
        promise25();
        check.about(names[26]);
        promise26();
        check.about(names[27]);
        promise27();
        check.about(names[28]);
        promise28();
        check.about(names[29]);
        promise29();
        check.about(names[30]);
        promise30();
        check.close("PromisesTest");
    }
}
