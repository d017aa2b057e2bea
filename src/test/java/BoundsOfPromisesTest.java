/** Promises 1 to 30: for each sentence that names a bound, the least and the greatest, and what lies beyond them. */
public final class BoundsOfPromisesTest extends Scene {
    private static final int[] WILD = {MIN, MIN + 1, MIN + 9, MIN + 10, -1000, -100, -1, MAX - 1, MAX};
    private static final int[] EIGHT = {0, 1, 2, 3, 4, 5, 6, 7};

    private interface AskOf {
        long of(int v);
    }

    /** All numbers from least to most are answered, and none beyond. */
    private static void answered(String call, AskOf ask, int least, int most, long refusal) {
        for (int v = least; v <= most; v++) {
            due(call + " of " + v + " is answered", ask.of(v) == refusal ? 0 : 1, 1);
        }
        due(call + " of " + (least - 1), ask.of(least - 1), refusal);
        due(call + " of " + (most + 1), ask.of(most + 1), refusal);
        for (int v : WILD) {
            if (v < least || v > most) {
                due(call + " of " + v, ask.of(v), refusal);
            }
        }
    }

    private static MinuteForTheUnread eight(int kind, int number, int bribe) {
        MinuteForTheUnread x = made();
        for (int i : EIGHT) {
            x.citizen(kind, number);
            x.set(3, i, bribe);
        }
        return x;
    }

    private static MinuteForTheUnread eightBy(String reads, String stills, String names) {
        MinuteForTheUnread x = eight(CITIZEN, 0, 0);
        x.force(text(x, "reads " + reads + ";stills " + stills + ";names " + names + ";"));
        return x;
    }

    // ---- 1 to 5

    private static void promise1() {
        check.about("promise 1: No CITIZENS, no business");
        MinuteForTheUnread x = made();
        due("CITIZENS", x.count(0), 0);
        due("ITEMS", x.count(1), 0);
        due("ITEMS that are DONE", x.count(2), 0);
        due("THE LIST", x.list(0), 0);
        due("how many", x.list(1), 0);
        due("SILENCE", x.list(2), 0);
        due("TIME", x.list(3), 0);
        due("minutes that are left", x.list(4), 60);
        due("by none", x.by(0), 0);
        due("by one", x.by(1), -2);
        due("BRIBE for one", x.bribe(0), -2);
        due("SOONEST", x.soonest(0, 0), -2);
        due("an ITEM's SITTING", x.run(40, 10), -2);
        due("a TEXT from nothing", x.text(), -100);
        due("a CITIZEN taken", x.taken(0, 0), -11);
        due("a SITTING", x.sit(), 0);
    }

    private static void promise2() {
        check.about("promise 2: SITTING (what 0; of does not matter), LENGTH (1; nor); what it was; BAD");
        MinuteForTheUnread x = with(c(CITIZEN, 1, 2), c(CITIZEN, 3, 4));
        answered("what", what -> x.set(what, 0, 7), 0, 3, -2);
        answered("of a NUMBER", of -> x.set(2, of, 5), 0, 1, -2);
        answered("of a BRIBE", of -> x.set(3, of, 5), 0, 1, -2);
        answered("SITTING", v -> made().set(0, 0, v), 0, 999, -2);
        answered("LENGTH", v -> made().set(1, 0, v), 0, 600, -2);
        MinuteForTheUnread y = with(c(CITIZEN, 1, 2));
        answered("NUMBER", v -> y.set(2, 0, v), 0, 9, -2);
        answered("BRIBE", v -> y.set(3, 0, v), 0, 99, -2);
        for (int what = 0; what <= 3; what++) {
            MinuteForTheUnread one = with(c(CITIZEN, 1, 2), c(NOBLE, 3, 4));
            one.set(what, 1, 8);
            int[] was = {0, 60, 3, 4, 1};
            for (int other = 0; other <= 4; other++) {
                due("set(" + what + ", 1, 8) and what " + other, one.told(1, other), other == what ? 8 : was[other]);
            }
            due("the other's NUMBER", one.told(0, 2), 1);
            due("the other's BRIBE", one.told(0, 3), 2);
        }
        MinuteForTheUnread z = made();
        for (int of : WILD) {
            due("SITTING, of " + of, z.set(0, of, 999), 0);
            due("SITTING back, of " + of, z.set(0, of, 0), 999);
            due("LENGTH, of " + of, z.set(1, of, 600), 60);
            due("LENGTH back, of " + of, z.set(1, of, 60), 600);
            due("a NUMBER of none", z.set(2, of, 0), -2);
            due("a BRIBE of none", z.set(3, of, 0), -2);
        }
    }

    private static void promises3and4() {
        check.about("promise 3: BAD; FULL");
        answered("KIND", kind -> made().citizen(kind, 0), 0, 5, -2);
        answered("NUMBER", number -> made().citizen(0, number), 0, 9, -2);
        MinuteForTheUnread x = eight(DEAD, 9, 0);
        due("FULL", x.citizen(0, 0), -4);
        due("BAD ahead of FULL: KIND", x.citizen(6, 0), -2);
        due("BAD ahead of FULL: NUMBER", x.citizen(0, -1), -2);
        check.about("promise 4: BAD; FULL");
        answered("minutes", minutes -> made().business(minutes), 1, 999, -2);
        for (int i = 0; i < 6; i++) {
            due("ITEM " + i, x.business(999), i);
        }
        due("FULL", x.business(1), -4);
        due("BAD ahead of FULL, below", x.business(0), -2);
        due("BAD ahead of FULL, above", x.business(1000), -2);
    }

    private static void promise5() {
        check.about("promise 5: told, BAD");
        MinuteForTheUnread x = with(c(CITIZEN, 1, 2), c(NOBLE, 3, 4));
        x.business(5);
        answered("what", what -> x.told(0, what), 0, 10, -2);
        for (int what = 2; what <= 7; what++) {
            int asked = what;
            MinuteForTheUnread y = with(c(CITIZEN, 1, 2), c(NOBLE, 3, 4));
            answered("what " + what + " of", of -> y.told(of, asked), 0, 1, -2);
            answered("what " + what + " of", of -> eight(HEIR, 9, 0).told(of, asked), 0, 7, -2);
        }
        for (int what = 8; what <= 10; what++) {
            int asked = what;
            answered("what " + what + " of", of -> x.told(of, asked), 0, 0, -2);
            answered("what " + what + " of", of -> aMinuteEach(1, 1, 1, 1, 1, 1).told(of, asked), 0, 5, -2);
        }
        for (int of : WILD) {
            due("SITTING, of does not matter", made().told(of, 0), 0);
            due("LENGTH, of does not matter", made().told(of, 1), 60);
        }
        check.about("promise 5: 10 the SITTING at which it was DONE (NONE)");
        x.set(0, 0, 998);
        x.sit();
        due("in 998", x.told(0, 10), 998);
        x.set(0, 0, 0);
        x.sit();
        due("still 998", x.told(0, 10), 998);
        x.business(1);
        x.set(0, 0, 0);
        x.sit();
        due("in 0", x.told(1, 10), 0);
    }

    // ---- 6 to 8

    private static void promises6to8() {
        check.about("promise 6: A byte (0 .. 255); BAD; FULL");
        answered("letter", letter -> made().feed(letter), 0, 255, -2);
        MinuteForTheUnread x = made();
        for (int i = 1; i <= 160; i++) {
            due("byte " + i, x.feed(i % 2 * 255), i);
        }
        due("FULL", x.feed(0), -4);
        due("BAD ahead of FULL, below", x.feed(-1), -2);
        due("BAD ahead of FULL, above", x.feed(256), -2);
        due("160 of them", x.count(4), 160);
        check.about("promise 7: THE TAPE, which is empty then (by a FAULT, too)");
        due("a FAULT of a full TAPE", x.text(), -100);
        due("empty", x.count(4), 0);
        due("the next byte is the first", x.feed('r'), 1);
        due("a TEXT is of what came then alone", text(x, "eads 1;stills 1;names 1;"), 1);
        due("empty by a TEXT", x.count(4), 0);
        due("nothing is left of it", x.text(), -100);
        promise7full();
        check.about("promise 8: BAD");
        answered("force", text -> withTexts(3).force(text), 0, 3, -2);
        answered("force", text -> withTexts(5).force(text), 0, 5, -2);
        answered("force", text -> made().force(text), 0, 0, -2);
        MinuteForTheUnread y = withTexts(5);
        due("which was, at first", y.force(5), 0);
        due("which was", y.force(5), 5);
        due("which was when it is refused", y.force(6), -2);
        due("THE RULE stays", y.count(5), 5);
        due("which was then", y.force(0), 5);
    }

    private static MinuteForTheUnread withTexts(int n) {
        MinuteForTheUnread x = made();
        for (int t = 1; t <= n; t++) {
            text(x, "reads 1;stills " + t + ";names 1;");
        }
        return x;
    }

    private static void promise7full() {
        check.about("promise 7: FULL (ahead of all): no TEXT more has room (THE TAPE stays)");
        MinuteForTheUnread x = withTexts(5);
        due("ahead of the FAULT of an empty TAPE", x.text(), -4);
        feed(x, "reads ?");
        due("ahead of a FAULT", x.text(), -4);
        due("it stays", x.count(4), 7);
        due("it goes on", x.feed('1'), 8);
        MinuteForTheUnread y = withTexts(4);
        due("a FAULT takes no room", text(y, "?"), -100);
        due("the last that has room", text(y, "reads 1;stills 1;names 1;"), 5);
    }

    // ---- 9 to 12

    private static void promise9() {
        check.about("promise 9: minutes that are left (4; 0 at least); BAD");
        answered("what", what -> eight(DEAD, 0, 0).list(what), 0, 4, -2);
        MinuteForTheUnread x = with(c(NOBLE, 9, 0));
        int[] lengths = {600, 11, 10, 9, 0};
        int[] lefts = {590, 1, 0, 0, 0};
        for (int i = 0; i < lengths.length; i++) {
            x.set(1, 0, lengths[i]);
            due("of " + lengths[i], x.list(4), lefts[i]);
        }
        due("none is READ", eight(DEAD, 0, 0).list(0), 0);
        due("all are READ", eight(NOBLE, 0, 0).list(0), 255);
        due("how many, none", eight(DEAD, 0, 0).list(1), 0);
        due("how many, all", eight(NOBLE, 0, 0).list(1), 8);
        due("SILENCE, none", eight(NOBLE, 0, 0).list(2), 0);
        due("TIME, none", eight(DEAD, 0, 0).list(3), 0);
        MinuteForTheUnread mixed = by("not read=2", "10*read", "1+read", c(0, 0, 0), c(DEAD, 0, 0), c(0, 0, 0), c(0, 0, 0),
            c(NOBLE, 0, 0), c(POOR, 0, 0), c(ORPHAN, 9, 0));
        due("some are READ", mixed.list(0), 1 + 4 + 16);
        due("SILENCE of the others, by those ahead", mixed.list(2), 1 + 20 + 30 / 2 + 30 / 2 + 2);
        due("TIME of those, by those ahead", mixed.list(3), 1 + 2 + 3);
        due("minutes left by both", mixed.list(4), 1);
        MinuteForTheUnread y = by("1", "60", "60");
        for (int i : EIGHT) {
            y.citizen(HEIR, 9);
        }
        due("most TIME", y.list(3), 8 * 69);
        due("most left out of it", y.list(4), 0);
        y.set(0, 0, 9);
        due("most SILENCE", y.list(2), 8 * 129);
        due("its TIME", y.list(3), 0);
        y.set(1, 0, 600);
        due("nothing is left of 600", y.list(4), 0);
    }

    private static void promise10() {
        check.about("promise 10: BAD: bits of no CITIZENS");
        answered("some of none", some -> made().by(some), 0, 0, -2);
        answered("some of one", some -> with(c(0, 0, 0)).by(some), 0, 1, -2);
        answered("some of three", some -> with(c(0, 0, 0), c(0, 0, 0), c(0, 0, 0)).by(some), 0, 7, -2);
        answered("some of eight", some -> eight(0, 0, 0).by(some), 0, 255, -2);
        due("one there, one not", with(c(0, 0, 0)).by(3), -2);
        due("the highest bit alone", eight(0, 0, 0).by(MIN), -2);
        due("the highest bit with others", eight(0, 0, 0).by(MIN + 1), -2);
        MinuteForTheUnread x = by("0", "10+read", "20+read", c(0, 0, 0), c(0, 0, 0), c(DEAD, 0, 0));
        due("none is READ: read is 0 for all", x.by(0), 10 + 10 + 1);
        due("all are: read counts those of it", x.by(7), 20 + 21 + 22);
        due("the last of three, who is never READ", x.by(4), 10 + 10 + 20);
        due("the first alone", x.by(1), 20 + 11 + 1);
    }

    private static void promise11() {
        check.about("promise 11: STATE: SITTING is 999");
        MinuteForTheUnread x = made();
        x.business(60);
        x.set(0, 0, 999);
        due("in 999", x.sit(), -3);
        due("it is not begun", x.told(0, 9), 0);
        due("SITTING stays", x.told(0, 0), 999);
        x.set(0, 0, 998);
        due("in 998", x.sit(), 1);
        due("SITTING is 1 more", x.told(0, 0), 999);
        due("DONE at this SITTING", x.told(0, 10), 998);
        due("then in 999", x.sit(), -3);
        check.about("each as long as it takes, or as is left; one that has all it takes is DONE at this SITTING");
        int[] takes = {58, 59, 60, 61, 119, 120, 121};
        int[] first = {58, 59, 60, 60, 60, 60, 60};
        for (int i = 0; i < takes.length; i++) {
            MinuteForTheUnread y = made();
            y.business(takes[i]);
            y.business(2);
            int second = Math.min(2, 60 - first[i]);
            int done = (first[i] == takes[i] ? 1 : 0) + (second == 2 ? 1 : 0);
            due(takes[i] + ": how many are DONE", y.sit(), done);
            due(takes[i] + ": so far", y.told(0, 9), first[i]);
            due(takes[i] + ": the one behind", y.told(1, 9), second);
            due(takes[i] + ": DONE at", y.told(0, 10), first[i] == takes[i] ? 0 : -1);
            due(takes[i] + ": DONE, the one behind", y.told(1, 10), second == 2 ? 0 : -1);
            due(takes[i] + ": all DONE", y.count(2), done);
        }
        promise11edges();
    }

    private static void promise11edges() {
        check.about("in what is left (0 at least)");
        MinuteForTheUnread x = with(c(NOBLE, 9, 0));
        x.business(1);
        for (int length : new int[] {0, 9, 10}) {
            x.set(1, 0, length);
            due("of " + length, x.sit(), 0);
            due("not begun of " + length, x.told(0, 9), 0);
        }
        x.set(1, 0, 11);
        due("of 11", x.sit(), 1);
        due("what is DONE is not gone on with", x.sit(), 0);
        due("it stays", x.told(0, 9), 1);
        MinuteForTheUnread y = made();
        due("no ITEMS", y.sit(), 0);
        for (int i = 0; i < 6; i++) {
            y.business(10);
        }
        due("all six at once", y.sit(), 6);
        due("none more", y.sit(), 0);
    }

    private static MinuteForTheUnread aMinuteEach(int... items) {
        MinuteForTheUnread x = made();
        x.set(1, 0, 1);
        for (int minutes : items) {
            x.business(minutes);
        }
        return x;
    }

    private static void promise12() {
        check.about("promise 12: n SITTINGS (0 .. 40); of ITEM what less 10 (10 ..); BAD");
        answered("n", n -> aMinuteEach(1).run(n, 0), 0, 40, -2);
        answered("n, minutes", n -> aMinuteEach(1).run(n, 1), 0, 40, -2);
        answered("n, of an ITEM", n -> aMinuteEach(1).run(n, 10), 0, 40, -2);
        due("an ITEM by no SITTING", aMinuteEach(1).run(0, 10), -1);
        due("how many by no SITTING", aMinuteEach(1).run(0, 0), 0);
        due("minutes by no SITTING", aMinuteEach(1).run(0, 1), 0);
        for (int what : new int[] {-1, 2, 3, 4, 5, 6, 7, 8, 9, 16, 17, 20, MIN, MIN + 9, MIN + 10, MAX}) {
            due("what " + what, aMinuteEach(1, 1, 1, 1, 1, 1).run(40, what), -2);
        }
        for (int item = 0; item < 6; item++) {
            due("ITEM " + item, aMinuteEach(1, 1, 1, 1, 1, 1).run(40, 10 + item), item);
        }
        due("of no ITEM", made().run(0, 10), -2);
        due("of one behind the last", aMinuteEach(1, 1).run(40, 12), -2);
        check.about("promise 12: how many ITEMS are DONE at last, at which one is DONE; NONE");
        MinuteForTheUnread x = aMinuteEach(40, 1);
        due("in the 39th not yet", x.run(39, 10), -1);
        due("none by the 39th", x.run(39, 0), 0);
        due("in the 40th", x.run(40, 10), 39);
        due("one by the 40th", x.run(40, 0), 1);
        due("the 41st is beyond", x.run(40, 11), -1);
        promise12edges();
    }

    private static void promise12edges() {
        check.about("promise 12: minutes that were left over in all");
        MinuteForTheUnread x = made();
        x.set(1, 0, 600);
        due("most", x.run(40, 1), 24000);
        x.business(999);
        due("less one ITEM", x.run(40, 1), 24000 - 999);
        due("less what was gone on with", x.run(1, 1), 0);
        due("less what was gone on with, the second", x.run(2, 1), 1200 - 999);
        MinuteForTheUnread y = with(c(NOBLE, 9, 0));
        y.set(1, 0, 9);
        due("0 at least each", y.run(40, 1), 0);
        check.about("in thought (there SITTING may pass 999)");
        MinuteForTheUnread z = aMinuteEach(1, 39, 1);
        z.set(0, 0, 999);
        due("in 999", z.run(40, 10), 999);
        due("in 1038", z.run(40, 11), 1038);
        due("how many", z.run(40, 0), 2);
        due("SITTING stays", z.told(0, 0), 999);
        due("ITEMS stay", z.told(0, 9), 0);
        due("none is DONE", z.count(2), 0);
    }

    // ---- 13 to 18

    private static void promises13and14() {
        check.about("promise 13: of like ones the least as bits; BAD");
        answered("what", what -> eight(0, 0, 0).shortest(what), 0, 1, -2);
        due("no CITIZENS", made().shortest(0), 0);
        due("no CITIZENS, how long", made().shortest(1), 0);
        due("all alike", eightBy("0", "5", "5").shortest(0), 0);
        due("all alike, how long", eightBy("0", "5", "5").shortest(1), 40);
        due("all", eightBy("0", "5", "4").shortest(0), 255);
        due("all, how long", eightBy("0", "5", "4").shortest(1), 32);
        due("none", eightBy("1", "4", "5").shortest(0), 0);
        due("the last alone", eightBy("0", "2", "3-2*(rank=7)").shortest(0), 128);
        due("by those of it", eightBy("0", "1", "2*(0<read)").shortest(0), 1);
        check.about("promise 14: k 0 .. 999; of like ones the least as bits; BAD; NONE");
        answered("k", k -> with(c(0, 0, 0)).fewest(k), 0, 999, -2);
        due("no CITIZENS, k 0", made().fewest(0), 0);
        due("all for nothing", eightBy("0", "1", "0").fewest(0), 255);
        due("none for nothing", eightBy("0", "0", "1").fewest(0), 0);
        due("nothing is so short", eightBy("0", "1", "1").fewest(7), -1);
        due("just so", eightBy("0", "1", "1").fewest(8), 255);
        due("one less than all", eightBy("0", "0", "1").fewest(7), 127);
        due("one", eightBy("0", "0", "1").fewest(1), 1);
        due("names ahead of minutes", eightBy("0", "0", "3-(rank=6)").fewest(5), 65);
        due("the most even", eightBy("1", "60", "60").fewest(999), 255);
        due("of one HEIR", with(c(HEIR, 9, 0)).fewest(10), 1);
        due("of one HEIR left out", with(c(HEIR, 9, 0)).fewest(9), -1);
    }

    /** A council that has a minute a SITTING for business if one is READ, and none else. */
    private static MinuteForTheUnread ifOneIsRead(int takes) {
        MinuteForTheUnread x = with(c(CITIZEN, 0, 0));
        x.set(1, 0, 2);
        x.business(takes);
        return x;
    }

    private static void promise15() {
        check.about("promise 15: BAD: no such ITEM, what");
        answered("what", what -> ifOneIsRead(1).soonest(0, what), 0, 1, -2);
        answered("of", of -> ifOneIsRead(1).soonest(of, 0), 0, 0, -2);
        answered("of six", of -> aMinuteEach(1, 1, 1, 1, 1, 1).soonest(of, 1), 0, 5, -2);
        due("of none", made().soonest(0, 0), -2);
        check.about("SOONEST: within 40 SITTINGS");
        due("in the 40th", ifOneIsRead(40).soonest(0, 0), 0);
        due("in the 40th, the SITTING", ifOneIsRead(40).soonest(0, 1), 39);
        due("in the 41st", ifOneIsRead(41).soonest(0, 0), -1);
        due("in the 41st, the SITTING", ifOneIsRead(41).soonest(0, 1), -1);
        MinuteForTheUnread late = ifOneIsRead(40);
        late.set(0, 0, 999);
        due("past 999", late.soonest(0, 1), 1038);
        due("past 999, who", late.soonest(0, 0), 0);
        late.set(3, 0, 1);
        due("no sooner than now", late.soonest(0, 0), -1);
        due("as now", late.soonest(0, 1), 1038);
        late.set(3, 0, 99);
        due("it is 99", late.soonest(0, 0), -1);
        promise15edges();
    }

    private static void promise15edges() {
        check.about("SOONEST: if sooner than now; of like ones the first; NONE");
        MinuteForTheUnread x = by("bribe", "3", "1", c(DEAD, 0, 0), c(CITIZEN, 0, 0), c(CITIZEN, 0, 0), c(POOR, 0, 0));
        x.set(1, 0, 9);
        x.business(4);
        due("the first of like ones", x.soonest(0, 0), 1);
        due("then", x.soonest(0, 1), 1);
        due("now", x.run(40, 10), 3);
        due("BRIBES stay", x.told(1, 3), 0);
        x.set(3, 1, 99);
        due("the next", x.soonest(0, 0), 2);
        due("then by the next", x.soonest(0, 1), 0);
        x.set(3, 2, 99);
        due("nobody makes it sooner than at once", x.soonest(0, 0), -1);
        due("at once", x.soonest(0, 1), 0);
        MinuteForTheUnread later = by("bribe<99", "3", "1", c(CITIZEN, 0, 0));
        later.set(1, 0, 3);
        later.business(3);
        due("who makes it later", later.soonest(0, 0), -1);
        due("now it is", later.soonest(0, 1), 1);
        check.about("SOONEST: as now; of an ITEM that is DONE that in which it was");
        later.set(0, 0, 500);
        later.set(3, 0, 98);
        later.sit();
        later.sit();
        due("DONE: who", later.soonest(0, 0), -1);
        due("DONE: the SITTING", later.soonest(0, 1), 501);
        later.set(0, 0, 0);
        due("DONE: the SITTING, even if it is to come", later.soonest(0, 1), 501);
        MinuteForTheUnread none = aMinuteEach(41);
        due("no CITIZENS", none.soonest(0, 0), -1);
        due("no CITIZENS, not within 40", none.soonest(0, 1), -1);
    }

    private static void promise16() {
        check.about("promise 16: the least (0 .. 99); BAD; NONE");
        String[] reads = {"1", "bribe=0", "0<bribe", "bribe", "bribe=99", "98<bribe", "99<bribe", "bribe<0", "0"};
        int[] least = {0, 0, 1, 1, 99, 99, -1, -1, -1};
        for (int i = 0; i < reads.length; i++) {
            for (int bribe : new int[] {0, 50, 99}) {
                due("reads " + reads[i] + ", now " + bribe, by(reads[i], "1", "1", c(CITIZEN, 0, bribe)).bribe(0), least[i]);
            }
        }
        due("POOR", by("1", "1", "1", c(POOR, 0, 0)).bribe(0), 1);
        due("POOR, no", by("0", "1", "1", c(POOR, 0, 99)).bribe(0), -1);
        due("NOBLE", by("0", "1", "1", c(NOBLE, 0, 0)).bribe(0), 0);
        due("DEAD", by("1", "1", "1", c(DEAD, 0, 99)).bribe(0), -1);
        due("HEIR", by("0", "1", "1", c(HEIR, 1, 0)).bribe(0), 0);
        due("HEIR, not in this SITTING", by("1", "1", "1", c(HEIR, 0, 0)).bribe(0), -1);
        for (int number = 0; number <= 9; number++) {
            due("ORPHAN of NUMBER " + number, by("0", "1", "1", c(ORPHAN, number, 0)).bribe(0), 10 * number);
        }
        for (int ahead = 0; ahead <= 3; ahead++) {
            MinuteForTheUnread x = by("10*read<bribe", "1", "1", c(0, 0, 0), c(0, 0, 0), c(0, 0, 0), c(0, 0, 0));
            for (int i = 0; i < ahead; i++) {
                x.set(3, i, 99);
            }
            due("by those ahead who are READ, " + ahead, x.bribe(3), 10 * ahead + 1);
            due("BRIBE stays", x.told(3, 3), 0);
        }
        answered("citizen", i -> eight(CITIZEN, 0, 0).bribe(i), 0, 7, -2);
        answered("citizen of two", i -> with(c(NOBLE, 0, 0), c(DEAD, 0, 0)).bribe(i), 0, 1, -2);
        due("no CITIZENS", made().bribe(0), -2);
    }

    private static void promise17() {
        check.about("promise 17: ORDER (what 0; 0), the sum then (1); BAD");
        answered("what", what -> aMinuteEach(1).order(what), 0, 1, -2);
        due("no ITEMS", made().order(0), 0);
        due("no ITEMS, sum", made().order(1), 0);
        MinuteForTheUnread x = aMinuteEach(1);
        due("one", x.order(0), 1);
        due("one, sum", x.order(1), 0);
        x.sit();
        due("none that isn't DONE", x.order(0), 0);
        due("none that isn't DONE, sum", x.order(1), 0);
        x.business(1);
        due("the second alone", x.order(0), 2);
        due("the second alone, sum", x.order(1), 1);
        due("six alike", aMinuteEach(1, 1, 1, 1, 1, 1).order(0), 123456);
        due("six alike, sum", aMinuteEach(1, 1, 1, 1, 1, 1).order(1), 15);
        due("six, each shorter", aMinuteEach(6, 5, 4, 3, 2, 1).order(0), 654321);
        due("six, each shorter, sum", aMinuteEach(6, 5, 4, 3, 2, 1).order(1), 0 + 2 + 5 + 9 + 14 + 20);
        check.about("ORDER: SITTING and 40 for one that isn't within 40");
        due("the 40th", aMinuteEach(40).order(1), 39);
        due("the 41st", aMinuteEach(41).order(1), 40);
        due("both beyond, of like ones the first", aMinuteEach(42, 41).order(0), 12);
        due("both beyond, sum", aMinuteEach(42, 41).order(1), 80);
        due("one beyond either way", aMinuteEach(40, 40).order(0), 12);
        due("one beyond either way, sum", aMinuteEach(40, 40).order(1), 79);
        due("the one within first", aMinuteEach(41, 40).order(0), 21);
        MinuteForTheUnread never = aMinuteEach(1, 1);
        never.set(1, 0, 0);
        never.set(0, 0, 999);
        due("no minutes", never.order(0), 12);
        due("no minutes, sum", never.order(1), 2 * 1039);
        never.set(1, 0, 1);
        due("past 999", never.order(1), 1999);
        due("ITEMS stay", never.told(0, 9), 0);
        MinuteForTheUnread begun = aMinuteEach(5, 3);
        begun.sit();
        begun.sit();
        due("what is left of one counts", begun.order(0), 12);
        begun.business(1);
        due("what is left of one counts, shorter", begun.order(0), 312);
        due("its sum", begun.order(1), 2 + 5 + 8);
        due("each SITTING's own minutes, the 40th", heirsMinutes(36).order(1), 39);
        due("each SITTING's own minutes, the 41st", heirsMinutes(37).order(1), 40);
        due("as by SITTINGS, the 40th", heirsMinutes(36).run(40, 10), 39);
        due("as by SITTINGS, the 41st", heirsMinutes(37).run(40, 10), -1);
    }

    /** An HEIR leaves one minute in each of 40 SITTINGS but in 1, 11, 21 and 31. */
    private static MinuteForTheUnread heirsMinutes(int takes) {
        MinuteForTheUnread x = with(c(HEIR, 1, 0));
        x.set(1, 0, 3);
        x.business(takes);
        return x;
    }

    private static void promise18() {
        check.about("promise 18: TURNED (what 0; NONE), how long then (1; NONE); of like ones the first; BAD");
        answered("what", what -> eight(0, 0, 0).turned(what), 0, 1, -2);
        due("no CITIZENS", made().turned(0), -1);
        due("no CITIZENS, how long", made().turned(1), -1);
        due("of like ones the first", eightBy("0", "3", "1").turned(0), 0);
        due("all but one", eightBy("0", "3", "1").turned(1), 22);
        due("none is better: the first", eightBy("1", "3", "1").turned(0), 0);
        due("none is better: longer", eightBy("1", "3", "1").turned(1), 10);
        due("the last", eightBy("0", "3", "3-(rank=7)").turned(0), 7);
        due("one who is never READ", with(c(DEAD, 0, 0)).turned(0), 0);
        due("one who always is", with(c(NOBLE, 0, 0)).turned(1), 6);
        due("all others as they are", by("read=0", "9", "1", c(0, 0, 0), c(0, 0, 0)).turned(0), 1);
        due("both then", by("read=0", "9", "1", c(0, 0, 0), c(0, 0, 0)).turned(1), 2);
    }

    // ---- 19 to 25

    private static long told(MinuteForTheUnread x, int number, int what) {
        row(x, 0, 2, number);
        return x.tells(0, what);
    }

    private static void promise19() {
        check.about("promise 19: BAD: SHEET, what, no such CITIZEN; -11; BAD: it doesn't tell 1");
        MinuteForTheUnread x = eight(CITIZEN, 0, 0);
        row(x, 0, 2, 24);
        for (int what = -1; what <= 60; what++) {
            boolean asked = what >= 0 && what <= 4 || what >= 10 && what < 50 && what % 10 < 8;
            due("what " + what, x.tells(0, what) == -2 ? 1 : 0, asked ? 0 : 1);
            due("what " + what + " of a missing SHEET", x.tells(3, what), asked ? -11 : -2);
            due("what " + what + " of no SHEET", x.tells(4, what), -2);
        }
        for (int what : WILD) {
            due("what " + what, x.tells(0, what), -2);
            due("SHEET " + what, x.tells(what, 0), -2);
        }
        answered("SHEET", sheet -> x.tells(sheet, 0), 0, 3, -2);
        MinuteForTheUnread y = with(c(CITIZEN, 0, 0), c(CITIZEN, 0, 0));
        row(y, 0, 0, 1);
        for (int tens = 10; tens <= 40; tens += 10) {
            due("CITIZEN 1, " + tens, y.tells(0, tens + 1) == -2 ? 1 : 0, 0);
            due("no CITIZEN 2, " + tens, y.tells(0, tens + 2), -2);
        }
        due("no CITIZENS", told(made(), 0, 10), -2);
        for (int sort = 0; sort <= 2; sort++) {
            for (int n = 0; n <= 40; n++) {
                y.sheet(1, sort, n);
                due("sort " + sort + ", it tells " + n, y.tells(1, 0), n == 1 ? 0 : -2);
            }
        }
        promise19ways();
        promise19one();
    }

    private static void promise19ways() {
        check.about("promise 19: WAYS (what 0), the least of them (1; NONE), by all (2), by none (3; both 0: no WAYS)");
        int[][] wants = {{24, 1, 0, 0, 255}, {8, 1, 255, 255, 0}, {22, 8, 1, 0, 0}, {10, 8, 127, 0, 0}, {16, 70, 15, 0, 0},
            {23, 0, -1, 0, 0}, {26, 0, -1, 0, 0}, {6, 0, -1, 0, 0}, {MIN, 0, -1, 0, 0}, {MAX, 0, -1, 0, 0}, {0, 0, -1, 0, 0},
            {-8, 0, -1, 0, 0}, {65536 + 8, 0, -1, 0, 0}};
        MinuteForTheUnread x = eight(CITIZEN, 0, 0);
        for (int[] want : wants) {
            for (int what = 0; what <= 3; what++) {
                due(what + " of " + want[0], told(x, want[0], what), want[what + 1]);
            }
        }
        due("all ways", told(eightBy("0", "1", "1"), 8, 0), 256);
        due("all ways, the least", told(eightBy("0", "1", "1"), 8, 1), 0);
        due("of no CITIZENS", told(made(), 0, 0), 1);
        due("of no CITIZENS, the least", told(made(), 0, 1), 0);
        due("of no CITIZENS, by all", told(made(), 0, 2), 0);
        due("of no CITIZENS, by none", told(made(), 0, 3), 0);
        due("of no CITIZENS, another number", told(made(), 1, 0), 0);
        MinuteForTheUnread y = by("0", "9", "1", c(CITIZEN, 0, 0), c(NOBLE, 0, 0), c(DEAD, 0, 0));
        due("ways of the NOBLE alone, or with the DEAD", told(y, 11, 0), 2);
        due("by all of these", told(y, 11, 2), 2);
        due("by none of these", told(y, 11, 3), 1);
    }

    private static void promise19one() {
        check.about("promise 19: TEXTS (4), KINDS, NUMBERS, BRIBES: how many, the least; NONE");
        MinuteForTheUnread x = withTexts(5);
        due("TEXTS of no CITIZENS: all six", told(x, 0, 4), 63);
        due("TEXTS of no CITIZENS: none", told(x, 1, 4), 0);
        x.citizen(DEAD, 0);
        due("TEXTS of one who is DEAD: all six", told(x, 1, 4), 63);
        MinuteForTheUnread y = withTexts(5);
        y.citizen(HEIR, 0);
        due("TEXT 5 alone", told(y, 10, 4), 32);
        due("TEXTS 0 and 3", told(y, 6, 4), 9);
        MinuteForTheUnread one = with(c(CITIZEN, 0, 1));
        due("all KINDS but HEIR", told(one, 1, 10), 1 + 2 + 4 + 16 + 32);
        due("HEIR", told(one, 6, 10), 8);
        due("no KINDS", told(one, 2, 10), 0);
        MinuteForTheUnread any = with(c(CITIZEN, 0, 1));
        any.set(0, 0, 2);
        due("all KINDS", told(any, 1, 10), 63);
        due("all NUMBERS", told(one, 1, 20), 1023);
        due("no NUMBERS", told(one, 2, 20), 0);
        due("NUMBER 9", told(with(c(NOBLE, 0, 0)), 10, 20), 512);
        due("NUMBER 0", told(with(c(NOBLE, 9, 0)), 1, 20), 1);
        due("all BRIBES", told(with(c(NOBLE, 0, 50)), 1, 30), 100);
        due("all BRIBES, the least", told(with(c(NOBLE, 0, 50)), 1, 40), 0);
        due("no BRIBES", told(with(c(NOBLE, 0, 50)), 2, 30), 0);
        due("no BRIBES, the least", told(with(c(NOBLE, 0, 50)), 2, 40), -1);
        due("all but 0", told(with(c(CITIZEN, 0, 50)), 1, 30), 99);
        due("all but 0, the least", told(with(c(CITIZEN, 0, 50)), 1, 40), 1);
        due("0 alone", told(with(c(CITIZEN, 0, 50)), 3, 30), 1);
        due("0 alone, the least", told(with(c(CITIZEN, 0, 50)), 3, 40), 0);
        due("99 alone", told(by("bribe=99", "3", "1", c(CITIZEN, 0, 0)), 1, 30), 1);
        due("99 alone, the least", told(by("bribe=99", "3", "1", c(CITIZEN, 0, 0)), 1, 40), 99);
        due("none above 99", told(by("99<bribe", "3", "1", c(CITIZEN, 0, 0)), 1, 30), 0);
        due("of the eighth", told(eight(CITIZEN, 0, 0), 22, 37), 99);
        due("of the eighth, the least", told(eight(CITIZEN, 0, 0), 22, 47), 1);
        due("of the eighth, KINDS", told(eight(CITIZEN, 0, 0), 22, 17), 2 + 4 + 16 + 32);
        due("of the eighth, NUMBERS", told(eight(NOBLE, 0, 0), 8 + 7, 27), 1 << 7);
        MinuteForTheUnread two = with(c(CITIZEN, 5, 0), c(NOBLE, 0, 0));
        due("KINDS of the first", told(two, 7, 10), 1 << NOBLE | 1 << HEIR);
        due("KINDS of the second", told(two, 9, 11), 1 << HEIR);
        due("NUMBERS of the second alone", told(two, 10, 21), 1 << 6);
        due("NUMBERS of the first do not matter", told(two, 4, 20), 1023);
        due("BRIBES of the first alone", told(two, 2, 30), 99);
        due("BRIBES of the second do not matter", told(two, 4, 31), 100);
    }

    private static void promise20() {
        check.about("promise 20: A SHEET truly becomes how long is gone by THE LIST (ints): that; BAD");
        answered("SHEET", sheet -> eight(CITIZEN, 0, 0).film(sheet), 0, 3, -2);
        MinuteForTheUnread x = made();
        due("nothing is gone", x.film(0), 0);
        due("it tells 0", x.tells(0, 0), 1);
        MinuteForTheUnread y = by("1", "60", "60", c(HEIR, 0, 0), c(HEIR, 0, 0), c(HEIR, 0, 0), c(HEIR, 0, 0), c(HEIR, 0, 0));
        y.set(1, 0, 0);
        due("it is more than LENGTH", y.film(3), 600);
        due("it tells that", y.tells(3, 1), 0);
        due("of ints", y.citizens(3, 2, 0, 0), 0);
        due("of 1", y.cell(3, 1, 0), -12);
        row(y, 3, 0, 5, 5, 5);
        due("where another stood", y.film(3), 600);
        due("of ints then", y.citizens(3, 2, 0, 0), 0);
        due("of 1 then", y.cell(3, 1, 0), -12);
    }

    /** The BRIBE of one by a SEED, worked out in longs. */
    private static long drawnBribe(int seed, int citizen) {
        long z = seed & 0xFFFFFFFFL;
        for (int i = 0; i <= citizen; i++) {
            z = z * 1103515245L + 12345L & 0xFFFFFFFFL;
        }
        return z / 512 % 100;
    }

    private static void promise21() {
        check.about("promise 21: DRAWN: (z >>> 9) % 100, z (an int; SEED at first) anew for each");
        for (int seed : new int[] {0, 1, -1, 7, MIN, MIN + 1, MAX, MAX - 1, 12345, -12345}) {
            for (int i : EIGHT) {
                String reads = "rank=" + i + " and bribe=" + drawnBribe(seed, i);
                due("reads " + reads + " by SEED " + seed, eightBy(reads, "1", "1").drawn(seed), 1);
                String not = "rank=" + i + " and not bribe=" + drawnBribe(seed, i);
                due("reads " + not + " by SEED " + seed, eightBy(not, "1", "1").drawn(seed), 0);
            }
        }
        due("no CITIZENS", made().drawn(MIN), 0);
        due("all", eight(NOBLE, 0, 0).drawn(MAX), 8);
        due("none", eight(DEAD, 0, 0).drawn(-1), 0);
        MinuteForTheUnread x = eight(CITIZEN, 0, 50);
        x.drawn(3);
        for (int i : EIGHT) {
            due("BRIBES stay", x.told(i, 3), 50);
        }
    }

    private static void promise22() {
        check.about("promise 22: IN m seeds (1 .. 20): part 0 above, 1 below the line; NO: m, part");
        long no = MinuteForTheUnread.NO;
        MinuteForTheUnread none = made();
        answered("m above", m -> none.chance(0, m, 0), 1, 20, no);
        answered("m below", m -> none.chance(0, m, 1), 1, 20, no);
        answered("part", part -> none.chance(0, 1, part), 0, 1, no);
        due("m and part", none.chance(0, 0, 2), no);
        check.about("IN m seeds: LENGTH or less; in lowest terms");
        MinuteForTheUnread x = with(c(NOBLE, 9, 0));
        int[] lengths = {0, 9, 10, 11, 600};
        int[] fits = {0, 0, 1, 1, 1};
        for (int i = 0; i < lengths.length; i++) {
            x.set(1, 0, lengths[i]);
            for (int m : new int[] {1, 7, 20}) {
                due("above, LENGTH " + lengths[i] + ", m " + m, x.chance(5, m, 0), fits[i]);
                due("below, LENGTH " + lengths[i] + ", m " + m, x.chance(5, m, 1), 1);
            }
        }
        for (int m = 1; m <= 20; m++) {
            for (int seed : new int[] {0, -5, MAX - 4, MIN}) {
                terms(seed, m);
            }
        }
    }

    private static void terms(int seed, int m) {
        MinuteForTheUnread x = by("bribe<50", "2", "1", c(CITIZEN, 0, 0));
        x.set(1, 0, 1);
        int fits = 0;
        for (int i = 0; i < m; i++) {
            fits += drawnBribe(seed + i, 0) < 50 ? 1 : 0;
        }
        int divisor = 1;
        for (int d = 1; d <= m; d++) {
            divisor = fits % d == 0 && m % d == 0 ? d : divisor;
        }
        due("above, SEED " + seed + ", m " + m, x.chance(seed, m, 0), fits / divisor);
        due("below, SEED " + seed + ", m " + m, x.chance(seed, m, 1), m / divisor);
    }

    private static void promises23and24() {
        check.about("promise 24: STATE: there is none");
        MinuteForTheUnread x = made();
        due("none", x.back(), -3);
        due("AN IMAGE of no CITIZENS", x.image(), 0);
        due("back to no CITIZENS", x.back(), 0);
        check.about("promise 24: CITIZENS, ITEMS that came since go");
        for (int i : EIGHT) {
            x.citizen(CITIZEN, i);
            x.business(i + 1);
        }
        due("eight go", x.back(), 0);
        due("none is there", x.told(0, 2), -2);
        due("no ITEM is there", x.told(0, 8), -2);
        due("there is room again", x.citizen(NOBLE, 3), 0);
        due("it is another", x.told(0, 4), NOBLE);
        MinuteForTheUnread y = eight(HEIR, 9, 0);
        for (int i = 0; i < 6; i++) {
            y.business(999);
        }
        due("AN IMAGE of eight", y.image(), 8);
        due("back to eight", y.back(), 8);
        due("still eight", y.count(0), 8);
        due("still six ITEMS", y.count(1), 6);
        due("no room then", y.citizen(0, 0), -4);
        check.about("promise 24: All that it keeps is as in THE IMAGE");
        Ask change = z -> z.set(0, 0, 5) + z.set(1, 0, 6) + z.set(2, 0, 7) + z.set(3, 0, 8) + z.sit() + z.force(0);
        MinuteForTheUnread z = by("0", "1", "1", c(ORPHAN, 1, 2));
        z.business(1);
        z.business(70);
        z.image();
        String then = "0 60 1 2 4 0 0 0 1 0 -1 70 0 -1 1";
        due("as it was: " + seen(z), seen(z).equals(then) ? 1 : 0, 1);
        change.of(z);
        due("it is changed: " + seen(z), seen(z).equals(then) ? 1 : 0, 0);
        z.back();
        due("back: " + seen(z), seen(z).equals(then) ? 1 : 0, 1);
        change.of(z);
        z.back();
        due("back a second time: " + seen(z), seen(z).equals(then) ? 1 : 0, 1);
        change.of(z);
        z.image();
        String newer = seen(z);
        z.set(0, 0, 77);
        z.back();
        due("the newer IMAGE alone: " + seen(z), seen(z).equals(newer) ? 1 : 0, 1);
    }

    private static String seen(MinuteForTheUnread x) {
        StringBuilder all = new StringBuilder();
        for (int what = 0; what <= 5; what++) {
            all.append(x.told(0, what)).append(' ');
        }
        all.append(x.count(2)).append(' ').append(x.list(0)).append(' ');
        for (int item = 0; item < 2; item++) {
            for (int what = 8; what <= 10; what++) {
                all.append(x.told(item, what)).append(' ');
            }
        }
        return all.append(x.count(5)).toString();
    }

    private static void promise25() {
        check.about("promise 25: BAD");
        MinuteForTheUnread x = eight(0, 0, 0);
        answered("what", what -> x.count(what), 0, 5, -2);
        due("CITIZENS, most", x.count(0), 8);
        MinuteForTheUnread y = aMinuteEach(1, 1, 1, 1, 1, 1);
        due("ITEMS, most", y.count(1), 6);
        due("DONE, least", y.count(2), 0);
        y.set(1, 0, 6);
        y.sit();
        due("DONE, most", y.count(2), 6);
        due("TEXTS, most", withTexts(5).count(3), 6);
        MinuteForTheUnread z = withTexts(5);
        z.force(5);
        due("THE RULE, the last", z.count(5), 5);
        for (int i = 0; i < 160; i++) {
            z.feed(0);
        }
        due("bytes, most", z.count(4), 160);
    }

    // ---- 26 to 30

    private static void promise26() {
        check.about("promise 26: BAD: no such SHEET, sort; n above 40; -14; n does not matter (sort -1)");
        answered("SHEET", sheet -> made().sheet(sheet, 0, 1), 0, 3, -2);
        answered("sort", sort -> made().sheet(0, sort, 1), -1, 2, -2);
        for (int sort = 0; sort <= 2; sort++) {
            for (int n = 0; n <= 40; n++) {
                MinuteForTheUnread x = made();
                due("sort " + sort + ", n " + n, x.sheet(0, sort, n), 1);
                due("its last", x.cell(0, n - 1, 1), n == 0 ? -12 : 1);
                due("behind it", x.cell(0, n, 1), -12);
                due("its sort", x.citizens(0, sort, 0, 0), 0);
            }
            for (int n : new int[] {41, 42, MAX}) {
                due("sort " + sort + ", n " + n, made().sheet(0, sort, n), -2);
            }
            for (int n : new int[] {-1, -2, MIN}) {
                due("sort " + sort + ", n " + n, made().sheet(0, sort, n), -14);
            }
        }
        for (int n : new int[] {MIN, -1, 0, 40, 41, MAX}) {
            MinuteForTheUnread x = made();
            row(x, 0, 0, 1);
            due("missing, n " + n, x.sheet(0, -1, n), 1);
            due("it is, n " + n, x.cell(0, 0, 0), -11);
            due("no SHEET, n " + n, x.sheet(4, -1, n), -2);
            due("no sort -2, n " + n, x.sheet(0, -2, n), -2);
            due("no sort 3, n " + n, x.sheet(0, 3, n), -2);
            due("no SHEET and no size, n " + n, x.sheet(-1, 0, n), -2);
        }
        promise26again();
    }

    private static void promise26again() {
        check.about("promise 26: all 0");
        MinuteForTheUnread x = made();
        row(x, 0, 2, 5, 5, 5, 5);
        x.sheet(0, 2, 1);
        due("the first is 0 again", x.tells(0, 0), 1);
        x.sheet(0, 2, 4);
        x.image();
        for (int i = 0; i < 3; i++) {
            x.citizens(0, 2, i, 1);
            due("KIND 0", x.told(0, 4), 0);
            due("NUMBER 0", x.told(0, 2), 0);
            x.back();
        }
        row(x, 1, 0, 5, 5);
        x.sheet(1, -1, 0);
        x.sheet(1, 0, 2);
        x.citizens(1, 0, 0, 1);
        due("missing between: KIND 0", x.told(0, 4), 0);
        due("missing between: NUMBER 0", x.told(0, 2), 0);
    }

    private static void promise26others() {
        check.about("promise 26: A SHEET becomes a row: the others stay");
        for (int sheet = 0; sheet <= 3; sheet++) {
            MinuteForTheUnread x = made();
            for (int other = 0; other <= 3; other++) {
                row(x, other, 2, 4, 5);
            }
            x.sheet(sheet, 0, 40);
            for (int i = 0; i < 40; i++) {
                x.cell(sheet, i, 3);
            }
            x.copy(sheet, 0, sheet, 1, 39);
            x.film(sheet);
            x.sheet(sheet, 2, 40);
            x.sheet(sheet, -1, 0);
            for (int other = 0; other <= 3; other++) {
                int last = x.count(0);
                due("SHEET " + other, x.citizens(other, 2, 0, 1), other == sheet ? -11 : 1);
                due("its first", x.told(last, 4), other == sheet ? -2 : 4);
                due("its second", x.told(last, 2), other == sheet ? -2 : 5);
            }
        }
    }

    private static void promise27() {
        check.about("promise 27: BAD: no such SHEET; -11; -12");
        MinuteForTheUnread x = made();
        row(x, 0, 2, 1, 2, 3);
        x.sheet(1, 0, 0);
        x.sheet(2, 1, 40);
        answered("of three", i -> x.cell(0, i, 9), 0, 2, -12);
        answered("of forty", i -> x.cell(2, i, 9), 0, 39, -12);
        for (int i : new int[] {-1, 0, 1, MIN, MAX}) {
            due("of none: " + i, x.cell(1, i, 9), -12);
            due("of a missing one: " + i, x.cell(3, i, 9), -11);
            due("of no SHEET: " + i, x.cell(4, i, 9), -2);
            due("of no SHEET, below: " + i, x.cell(-1, i, 9), -2);
        }
        for (int sheet : WILD) {
            due("SHEET " + sheet, x.cell(sheet, 0, 0), -2);
        }
        check.about("promise 27: of bytes, shorts its lowest 8, 16 bits");
        int[] vs = {0, 9, 255, 256, 256 + 9, -256, -256 + 9, 512 + 9, 65535, 65536, 65536 + 9, -65536, -65536 + 9, 65536 + 256 + 9,
            MIN, MIN + 9, MIN + 256 + 9, MAX, -1};
        for (int v : vs) {
            for (int sort = 0; sort <= 2; sort++) {
                long kept = sort == 0 ? v & 255 : sort == 1 ? v & 65535 : v;
                MinuteForTheUnread y = made();
                row(y, 0, sort, 0, v);
                boolean isNumber = kept >= 0 && kept <= 9;
                due("a NUMBER by " + v + " of sort " + sort, y.citizens(0, sort, 0, 1), isNumber ? 1 : 0);
                due("that NUMBER", y.told(0, 2), isNumber ? kept : -2);
            }
        }
    }

    /** The highest of the lowest bits is a sign, as in Java's own bytes and shorts. */
    private static void promise27signs() {
        check.about("promise 27: of bytes its lowest 8 bits (with Java's sign)");
        int[] minutes = {0, 1, 127, 128, 129, 200, 255, 256, 257};
        for (int m : minutes) {
            String stills = "(" + m + "-60*rank)*(60*rank<" + m + "+1)";
            MinuteForTheUnread x = by("0", stills, "60", c(0, 0, 0), c(0, 0, 0), c(0, 0, 0), c(0, 0, 0), c(0, 0, 0));
            due(m + " are gone", x.by(0), m);
            for (int sort = 0; sort <= 2; sort++) {
                row(x, sort, sort, m);
                boolean kept = sort > 0 || m <= 127;
                due("it tells " + m + " by sort " + sort, x.tells(sort, 1) == 0 ? 1 : 0, kept ? 1 : 0);
            }
        }
    }

    private static MinuteForTheUnread rows() {
        MinuteForTheUnread x = made();
        x.image();
        row(x, 0, 2, 1, 2, 3, 4, 5);
        row(x, 1, 2, 0, 0, 0);
        return x;
    }

    /** A row's numbers, from the second on, as NUMBERS of those who come by it; the others must be KINDS. */
    private static void holds(MinuteForTheUnread x, int sheet, int... numbers) {
        x.image();
        for (int i = 0; i + 1 < numbers.length; i++) {
            x.citizens(sheet, 2, i, 1);
            due("item " + i, x.told(0, 4), numbers[i]);
            due("item " + (i + 1), x.told(0, 2), numbers[i + 1]);
            x.back();
        }
        due("no more", x.cell(sheet, numbers.length, 0), -12);
    }

    private static void copied(int sheet, int i, int other, int j, int n, long want) {
        due("copy(" + sheet + ", " + i + ", " + other + ", " + j + ", " + n + ")", rows().copy(sheet, i, other, j, n), want);
    }

    private static void promise28() {
        check.about("promise 28: n numbers from item i on, to item j on: -12 (also with n below 0)");
        for (int n = -2; n <= 7; n++) {
            for (int i = -2; i <= 7; i++) {
                for (int j = -2; j <= 5; j++) {
                    boolean fits = n >= 0 && i >= 0 && j >= 0 && i + n <= 5 && j + n <= 3;
                    copied(0, i, 1, j, n, fits ? n : -12);
                }
            }
        }
        for (int wild : WILD) {
            copied(wild, 0, 1, 0, 1, -2);
            copied(0, 0, wild, 0, 1, -2);
            copied(0, wild, 1, 0, 1, -12);
            copied(0, 0, 1, wild, 1, -12);
            copied(0, wild, 1, 0, 0, -12);
            copied(0, 0, 1, wild, 0, -12);
            copied(0, 0, 1, 0, wild, -12);
            copied(0, 1, 1, 1, wild, -12);
            copied(0, wild, 1, wild, wild, -12);
        }
        copied(0, 0, 0, 0, 5, 5);
        copied(4, 0, 1, 0, 1, -2);
        copied(0, 0, 4, 0, 1, -2);
        promise28order();
        promise28rows();
    }

    private static void promise28order() {
        check.about("promise 28: BAD: no such SHEET; -11; -13: they are of unlike sorts; -12");
        for (int n : new int[] {-1, 0, 1, 9}) {
            copied(4, 0, 3, 0, n, -2);
            copied(3, 0, 4, 0, n, -2);
            copied(-1, 0, 0, 0, n, -2);
            copied(0, 0, -1, 0, n, -2);
            copied(0, 9, 3, 9, n, -11);
            copied(3, 9, 0, 9, n, -11);
            copied(3, 9, 3, 9, n, -11);
        }
        for (int one = 0; one <= 2; one++) {
            for (int two = 0; two <= 2; two++) {
                MinuteForTheUnread x = made();
                x.sheet(0, one, 3);
                x.sheet(1, two, 3);
                due("sorts " + one + ", " + two, x.copy(0, 0, 1, 0, 3), one == two ? 3 : -13);
                due("sorts " + one + ", " + two + ", none", x.copy(0, 3, 1, 3, 0), one == two ? 0 : -13);
                due("sorts " + one + ", " + two + ", outside", x.copy(0, 0, 1, 0, 4), one == two ? -12 : -13);
                due("sorts " + one + ", " + two + ", below 0", x.copy(0, 0, 1, 0, -1), one == two ? -12 : -13);
                due("sorts " + one + ", missing", x.copy(0, 0, 2, 0, 4), -11);
            }
        }
    }

    private static void promise28rows() {
        check.about("promise 28: (as they were): n");
        MinuteForTheUnread x = rows();
        x.copy(0, 2, 1, 0, 3);
        holds(x, 1, 3, 4, 5);
        holds(x, 0, 1, 2, 3, 4, 5);
        x = rows();
        x.copy(0, 0, 1, 2, 1);
        holds(x, 1, 0, 0, 1);
        x = rows();
        x.copy(0, 1, 1, 1, 0);
        holds(x, 1, 0, 0, 0);
        x = rows();
        x.copy(0, 0, 0, 1, 4);
        holds(x, 0, 1, 1, 2, 3, 4);
        x = rows();
        x.copy(0, 1, 0, 0, 4);
        holds(x, 0, 2, 3, 4, 5, 5);
        x = rows();
        x.copy(0, 0, 0, 3, 2);
        holds(x, 0, 1, 2, 3, 1, 2);
        x = rows();
        x.copy(0, 0, 1, 0, 4);
        holds(x, 1, 0, 0, 0);
        x = rows();
        x.sheet(0, 2, 40);
        x.sheet(1, 2, 40);
        due("all forty", x.copy(0, 0, 1, 0, 40), 40);
        due("forty-one", x.copy(0, 0, 1, 0, 41), -12);
        due("the fortieth", x.copy(0, 39, 1, 39, 1), 1);
        due("none behind the fortieth", x.copy(0, 40, 1, 40, 0), 0);
        due("none further behind", x.copy(0, 41, 1, 0, 0), -12);
    }

    private static MinuteForTheUnread rowOf(int... numbers) {
        MinuteForTheUnread x = made();
        row(x, 0, 1, numbers);
        return x;
    }

    private static void came(MinuteForTheUnread x, int from, int n, long want, int citizens) {
        due("citizens(0, 1, " + from + ", " + n + ")", x.citizens(0, 1, from, n), want);
        due("how many then", x.count(0), citizens);
    }

    private static void promise29() {
        check.about("promise 29: n of them (0 .. 8); BAD: no such SHEET, sort, n; -13; -11; -12");
        answered("n", n -> rowOf(new int[16]).citizens(0, 1, 0, n), 0, 8, -2);
        answered("SHEET", sheet -> rowOf(0, 0).citizens(sheet, 1, 0, 1), 0, 3, -2);
        for (int sort : new int[] {-2, -1, 3, MIN, MAX}) {
            due("sort " + sort, rowOf(0, 0).citizens(0, sort, 0, 1), -2);
            due("sort " + sort + " of a missing one", rowOf(0, 0).citizens(1, sort, 0, 1), -2);
        }
        for (int n = 0; n <= 8; n++) {
            for (int from : new int[] {MIN, -1, 0, 9, MAX}) {
                due("another sort, n " + n + " from " + from, rowOf(0, 0).citizens(0, 0, from, n), -13);
                due("another sort, n " + n + " from " + from, rowOf(0, 0).citizens(0, 2, from, n), -13);
                due("missing, n " + n + " from " + from, rowOf(0, 0).citizens(1, 1, from, n), -11);
                due("no SHEET, n " + n + " from " + from, rowOf(0, 0).citizens(4, 1, from, n), -2);
            }
        }
        for (int from : WILD) {
            for (int n = 1; n <= 8; n++) {
                came(rowOf(new int[40]), from, n, -12, 0);
            }
        }
        came(rowOf(new int[40]), 24, 8, 8, 8);
        came(rowOf(new int[40]), 25, 8, -12, 7);
        came(rowOf(new int[40]), 38, 1, 1, 1);
        came(rowOf(new int[40]), 39, 1, -12, 0);
        came(rowOf(new int[40]), 40, 1, -12, 0);
        promise29rows();
    }

    private static void promise29rows() {
        check.about("promise 29: -12: what stood ahead came");
        came(rowOf(), 0, 1, -12, 0);
        came(rowOf(), 0, 0, 0, 0);
        came(rowOf(1), 0, 1, -12, 0);
        came(rowOf(1, 2), 0, 1, 1, 1);
        came(rowOf(1, 2), 1, 1, -12, 0);
        came(rowOf(1, 2, 3), 0, 2, -12, 1);
        came(rowOf(1, 2, 3, 4), 0, 3, -12, 2);
        came(rowOf(6, 2, 3, 4), 0, 3, -12, 1);
        came(rowOf(1, 2, 3, 4), -2, 3, -12, 0);
        check.about("promise 29: how many came (others are left out)");
        came(rowOf(6, 2, 3, 4), 0, 2, 1, 1);
        came(rowOf(-1, 2, 3, 4), 0, 2, 1, 1);
        came(rowOf(5, 9, 5, 10), 0, 2, 1, 1);
        came(rowOf(5, -1, 0, 0), 0, 2, 1, 1);
        came(rowOf(6, 10, 6, 10), 0, 2, 0, 0);
        MinuteForTheUnread x = rowOf(1, 2, 9, 9, 3, 4);
        came(x, 0, 3, 2, 2);
        due("KIND of the first", x.told(0, 4), 1);
        due("NUMBER of the first", x.told(0, 2), 2);
        due("KIND of the last", x.told(1, 4), 3);
        due("NUMBER of the last", x.told(1, 2), 4);
        due("BRIBE of the last", x.told(1, 3), 0);
        came(x, 0, 3, 2, 4);
        came(x, 0, 3, 2, 6);
        came(x, 4, 1, 1, 7);
        came(x, 0, 3, 1, 8);
        came(x, 0, 3, 0, 8);
        came(x, 0, 0, 0, 8);
        came(x, 2, 3, -12, 8);
    }

    private static void promise30() {
        check.about("promise 30: BAD: k; -11: no such CITIZEN; -13; or one under that one (also by others between)");
        int[][] under = {{0}, {0, 1}, {0, 2}, {0, 1, 3}, {0, 2, 4}, {0, 5}};
        for (int kind = 0; kind <= 5; kind++) {
            for (int k = 0; k <= 5; k++) {
                boolean isOne = false;
                for (int above : under[kind]) {
                    isOne |= above == k;
                }
                for (int number : new int[] {0, 9}) {
                    due("KIND " + kind + " taken for " + k, with(c(kind, number, 0)).taken(0, k), isOne ? number : -13);
                }
                due("nobody taken for " + k, with(c(kind, 0, 0)).taken(1, k), -11);
            }
        }
        answered("k", k -> with(c(ORPHAN, 1, 0)).taken(0, k), 0, 5, -2);
        answered("citizen", i -> eight(ORPHAN, 1, 0).taken(i, 2), 0, 7, -11);
        for (int k : new int[] {-1, 6, MIN, MAX}) {
            due("BAD ahead of -11", with(c(0, 0, 0)).taken(1, k), -2);
            due("BAD ahead of -11, below", with(c(0, 0, 0)).taken(-1, k), -2);
            due("BAD where there are none", made().taken(0, k), -2);
        }
    }

    public static void main(String[] args) {
        promise1();
        promise2();
        promises3and4();
        promise5();
        promises6to8();
        promise9();
        promise10();
        promise11();
        promise12();
        promises13and14();
        promise15();
        promise16();
        promise17();
        promise18();
        promise19();
        promise20();
        promise21();
        promise22();
        promises23and24();
        promise25();
        promise26();
        promise26others();
        promise27();
        promise27signs();
        promise28();
        promise29();
        promise30();
        check.close("BoundsOfPromisesTest");
    }
}
