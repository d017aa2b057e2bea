/** Refusals: which comes first where several hold, and that they change nothing; nor do calls that only ask. */
public final class RefusalsTest extends Scene {
    private interface Place {
        MinuteForTheUnread made();
    }

    /** In the midst of things: some of all that there may be, room for more, and AN IMAGE of less. SHEET 3 is missing. */
    private static MinuteForTheUnread busy() {
        MinuteForTheUnread x = with(c(CITIZEN, 1, 2), c(ORPHAN, 3, 4));
        text(x, "reads 1;stills 4;names 5;");
        x.business(30);
        x.set(1, 0, 45);
        x.image();
        x.force(1);
        x.citizen(NOBLE, 6);
        x.business(70);
        x.sit();
        row(x, 0, 0, 1, 2, 3);
        row(x, 1, 1, 0, 5);
        row(x, 2, 2, 2);
        feed(x, "reads 1");
        return x;
    }

    /** No more has room: CITIZENS, ITEMS, TEXTS; it is SITTING 999. */
    private static MinuteForTheUnread full() {
        MinuteForTheUnread x = with(c(HEIR, 9, 99));
        x.image();
        for (int i = 1; i < 8; i++) {
            x.citizen(i % 6, i);
        }
        for (int t = 1; t <= 5; t++) {
            text(x, "reads " + t + ";stills " + t + ";names 1;");
        }
        for (int i = 0; i < 6; i++) {
            x.business(20 + i);
        }
        x.sit();
        x.set(0, 0, 999);
        feed(x, "reads");
        return x;
    }

    /** THE TAPE has no room; what it holds is a TEXT. */
    private static MinuteForTheUnread fullTape() {
        MinuteForTheUnread x = with(c(CITIZEN, 1, 1));
        feed(x, "reads 1;stills 2;names 3;" + " ".repeat(135));
        return x;
    }

    private static void unchanged(String call, Place place, MinuteForTheUnread x) {
        String want = allOf(place.made());
        String got = allOf(x);
        due(call + " leaves <" + want + ">, here <" + got + ">", got.equals(want) ? 1 : 0, 1);
    }

    private static void refused(Place place, String call, Ask ask, long want) {
        MinuteForTheUnread x = place.made();
        due(call, ask.of(x), want);
        due(call + " a second time", ask.of(x), want);
        unchanged(call, place, x);
    }

    private static void asked(Place place, String call, Ask ask) {
        MinuteForTheUnread x = place.made();
        long first = ask.of(x);
        due(call + " a second time", ask.of(x), first);
        unchanged(call, place, x);
    }

    // ---- each refusal

    private static void citizensAndBusiness() {
        check.about("refused, citizens and business");
        int[][] sets = {{-1, 0, 0}, {4, 0, 0}, {MIN, 0, 0}, {MAX, 0, 0}, {0, 0, -1}, {0, 0, 1000}, {0, 0, MIN}, {0, 0, MAX},
            {1, 0, -1}, {1, 0, 601}, {1, 0, MIN}, {1, 0, MAX}, {2, 0, -1}, {2, 0, 10}, {2, 3, 5}, {2, -1, 5}, {2, MAX, 10},
            {3, 0, -1}, {3, 0, 100}, {3, 3, 5}, {3, -1, 5}, {3, MIN, -1}};
        for (int[] s : sets) {
            refused(RefusalsTest::busy, "set(" + s[0] + ", " + s[1] + ", " + s[2] + ")", x -> x.set(s[0], s[1], s[2]), -2);
        }
        int[][] citizens = {{-1, 0}, {6, 0}, {0, -1}, {0, 10}, {MIN, MIN}, {MAX, MAX}};
        for (int[] c : citizens) {
            String call = "citizen(" + c[0] + ", " + c[1] + ")";
            refused(RefusalsTest::busy, call, x -> x.citizen(c[0], c[1]), -2);
            refused(RefusalsTest::full, call + ", BAD ahead of FULL", x -> x.citizen(c[0], c[1]), -2);
        }
        refused(RefusalsTest::full, "citizen(0, 0)", x -> x.citizen(0, 0), -4);
        refused(RefusalsTest::full, "citizen(5, 9)", x -> x.citizen(5, 9), -4);
        for (int minutes : new int[] {0, -1, 1000, MIN, MAX}) {
            refused(RefusalsTest::busy, "business(" + minutes + ")", x -> x.business(minutes), -2);
            refused(RefusalsTest::full, "business(" + minutes + "), BAD ahead of FULL", x -> x.business(minutes), -2);
        }
        refused(RefusalsTest::full, "business(1)", x -> x.business(1), -4);
        refused(RefusalsTest::full, "business(999)", x -> x.business(999), -4);
        int[][] told = {{0, -1}, {0, 11}, {3, 2}, {3, 3}, {3, 4}, {3, 5}, {3, 6}, {3, 7}, {2, 8}, {2, 9}, {2, 10}, {-1, 2}, {-1, 8},
            {MIN, MIN}, {MAX, MAX}};
        for (int[] t : told) {
            refused(RefusalsTest::busy, "told(" + t[0] + ", " + t[1] + ")", x -> x.told(t[0], t[1]), -2);
        }
    }

    private static void textsAndSittings() {
        check.about("refused, texts and sittings");
        for (int letter : new int[] {-1, 256, MIN, MAX}) {
            refused(RefusalsTest::busy, "feed(" + letter + ")", x -> x.feed(letter), -2);
            refused(RefusalsTest::fullTape, "feed(" + letter + "), BAD ahead of FULL", x -> x.feed(letter), -2);
        }
        for (int letter : new int[] {0, 32, 'r', 255}) {
            refused(RefusalsTest::fullTape, "feed(" + letter + ")", x -> x.feed(letter), -4);
        }
        refused(RefusalsTest::full, "text(), FULL ahead of a FAULT", MinuteForTheUnread::text, -4);
        for (int text : new int[] {-1, 2, 6, MIN, MAX}) {
            refused(RefusalsTest::busy, "force(" + text + ")", x -> x.force(text), -2);
        }
        refused(RefusalsTest::full, "force(6)", x -> x.force(6), -2);
        for (int what : new int[] {-1, 5, MIN, MAX}) {
            refused(RefusalsTest::busy, "list(" + what + ")", x -> x.list(what), -2);
        }
        for (int some : new int[] {-1, 8, 9, 15, MIN, MIN + 1, MAX}) {
            refused(RefusalsTest::busy, "by(" + some + ")", x -> x.by(some), -2);
        }
        refused(RefusalsTest::full, "by(256)", x -> x.by(256), -2);
        refused(RefusalsTest::full, "sit()", MinuteForTheUnread::sit, -3);
        int[][] runs = {{-1, 0}, {41, 0}, {-1, 10}, {41, 10}, {0, -1}, {0, 2}, {0, 9}, {0, 12}, {MIN, MIN}, {MAX, MAX},
            {40, MIN + 9}};
        for (int[] r : runs) {
            refused(RefusalsTest::busy, "run(" + r[0] + ", " + r[1] + ")", x -> x.run(r[0], r[1]), -2);
        }
    }

    private static void best() {
        check.about("refused, what would be best");
        for (int wrong : new int[] {-1, 2, 10, MIN, MAX}) {
            refused(RefusalsTest::busy, "shortest(" + wrong + ")", x -> x.shortest(wrong), -2);
            refused(RefusalsTest::busy, "order(" + wrong + ")", x -> x.order(wrong), -2);
            refused(RefusalsTest::busy, "turned(" + wrong + ")", x -> x.turned(wrong), -2);
            refused(RefusalsTest::busy, "soonest(0, " + wrong + ")", x -> x.soonest(0, wrong), -2);
            refused(RefusalsTest::busy, "soonest(" + wrong + ", 0)", x -> x.soonest(wrong, 0), -2);
            refused(RefusalsTest::busy, "soonest(" + wrong + ", " + wrong + ")", x -> x.soonest(wrong, wrong), -2);
            int citizen = wrong == 2 ? 3 : wrong;
            refused(RefusalsTest::busy, "bribe(" + citizen + ")", x -> x.bribe(citizen), -2);
        }
        for (int k : new int[] {-1, 1000, MIN, MAX}) {
            refused(RefusalsTest::busy, "fewest(" + k + ")", x -> x.fewest(k), -2);
        }
    }

    private static void told() {
        check.about("refused, what was told");
        int[][] tells = {{-1, 0, -2}, {4, 0, -2}, {MIN, 0, -2}, {MAX, 0, -2}, {4, -1, -2}, {2, -1, -2}, {2, 5, -2}, {2, 9, -2},
            {2, 13, -2}, {2, 19, -2}, {2, 23, -2}, {2, 33, -2}, {2, 43, -2}, {2, 50, -2}, {2, MIN, -2}, {2, MAX, -2}, {3, 5, -2},
            {3, 13, -2}, {3, 50, -2}, {3, 0, -11}, {3, 4, -11}, {3, 10, -11}, {3, 42, -11}, {0, 0, -2}, {1, 4, -2}, {1, 10, -2}};
        for (int[] t : tells) {
            refused(RefusalsTest::busy, "tells(" + t[0] + ", " + t[1] + ")", x -> x.tells(t[0], t[1]), t[2]);
        }
        for (int sheet : new int[] {-1, 4, MIN, MAX}) {
            refused(RefusalsTest::busy, "film(" + sheet + ")", x -> x.film(sheet), -2);
        }
        int[][] chances = {{0, 0, 0}, {0, 21, 0}, {0, -1, 1}, {0, MIN, 0}, {0, MAX, 0}, {0, 1, -1}, {0, 1, 2}, {0, 1, MIN},
            {0, 0, 2}, {MAX, 21, MAX}};
        for (int[] c : chances) {
            refused(RefusalsTest::busy, "chance(" + c[0] + ", " + c[1] + ", " + c[2] + ")", x -> x.chance(c[0], c[1], c[2]),
                -4611686018427387904L);
        }
        refused(RefusalsTest::fullTape, "back()", MinuteForTheUnread::back, -3);
        refused(Scene::made, "back() of a new object", MinuteForTheUnread::back, -3);
        for (int what : new int[] {-1, 6, MIN, MAX}) {
            refused(RefusalsTest::busy, "count(" + what + ")", x -> x.count(what), -2);
        }
    }

    private static void host() {
        check.about("refused, the host");
        int[][] sheets = {{-1, 0, 1, -2}, {4, 0, 1, -2}, {MIN, 0, 1, -2}, {MAX, -1, 1, -2}, {0, -2, 1, -2}, {0, 3, 1, -2},
            {0, MIN, 1, -2}, {0, MAX, 1, -2}, {0, 0, 41, -2}, {1, 1, 41, -2}, {2, 2, MAX, -2}, {0, 0, -1, -14}, {1, 1, -1, -14},
            {2, 2, MIN, -14}, {3, 0, -1, -14}, {4, 0, -1, -2}, {0, 3, -1, -2}, {0, -2, -1, -2}, {4, 3, 41, -2}};
        for (int[] s : sheets) {
            refused(RefusalsTest::busy, "sheet(" + s[0] + ", " + s[1] + ", " + s[2] + ")", x -> x.sheet(s[0], s[1], s[2]), s[3]);
        }
        int[][] cells = {{-1, 0, -2}, {4, 0, -2}, {MIN, -1, -2}, {MAX, 3, -2}, {3, 0, -11}, {3, -1, -11}, {3, MAX, -11}, {0, -1, -12},
            {0, 3, -12}, {0, 40, -12}, {0, MIN, -12}, {0, MAX, -12}, {1, 2, -12}, {2, 1, -12}};
        for (int[] c : cells) {
            refused(RefusalsTest::busy, "cell(" + c[0] + ", " + c[1] + ", 4)", x -> x.cell(c[0], c[1], 4), c[2]);
        }
        int[][] copies = {{-1, 0, 0, 0, 1, -2}, {4, 0, 0, 0, 1, -2}, {0, 0, -1, 0, 1, -2}, {0, 0, 4, 0, 1, -2}, {3, 0, 4, 0, 1, -2},
            {4, 0, 3, 0, -1, -2}, {3, 0, 0, 0, 1, -11}, {0, 0, 3, 0, 1, -11}, {3, 0, 3, 0, 0, -11}, {3, -1, 1, 9, -1, -11},
            {0, 0, 1, 0, 1, -13}, {1, 0, 2, 0, 1, -13}, {2, 0, 0, 0, 1, -13}, {0, 9, 1, 0, 1, -13}, {0, 0, 2, 0, -1, -13},
            {0, 0, 0, 1, 3, -12}, {0, 1, 0, 0, 3, -12}, {0, 0, 0, 1, -1, -12}, {0, -1, 0, 0, 2, -12}, {0, 0, 0, -1, 2, -12},
            {0, 0, 0, 4, 0, -12}, {0, 4, 0, 0, 0, -12}, {0, MAX, 0, 0, 1, -12}, {0, 0, 0, MAX, 1, -12}, {0, 1, 0, 0, MAX, -12},
            {0, 0, 0, 1, MIN, -12}, {0, MIN, 0, MIN, MIN, -12}};
        for (int[] c : copies) {
            refused(RefusalsTest::busy, "copy(" + c[0] + ", " + c[1] + ", " + c[2] + ", " + c[3] + ", " + c[4] + ")",
                x -> x.copy(c[0], c[1], c[2], c[3], c[4]), c[5]);
        }
        hostsCitizens();
    }

    private static void hostsCitizens() {
        int[][] citizens = {{-1, 0, 0, 1, -2}, {4, 0, 0, 1, -2}, {0, -1, 0, 1, -2}, {0, 3, 0, 1, -2}, {0, 0, 0, -1, -2},
            {0, 0, 0, 9, -2}, {3, 3, 0, 1, -2}, {3, 0, 0, 9, -2}, {0, 1, 0, 9, -2}, {0, 1, 0, 1, -13}, {0, 2, 0, 0, -13},
            {1, 0, 9, 1, -13}, {2, 1, -1, 8, -13}, {3, 0, 0, 1, -11}, {3, 1, 0, 0, -11}, {3, 2, -1, 8, -11}, {0, 0, -1, 1, -12},
            {0, 0, 2, 1, -12}, {0, 0, 3, 1, -12}, {0, 0, MAX, 1, -12}, {0, 0, MIN, 8, -12}, {2, 2, 0, 1, -12}};
        for (int[] c : citizens) {
            refused(RefusalsTest::busy, "citizens(" + c[0] + ", " + c[1] + ", " + c[2] + ", " + c[3] + ")",
                x -> x.citizens(c[0], c[1], c[2], c[3]), c[4]);
        }
        int[][] taken = {{0, -1, -2}, {0, 6, -2}, {3, 6, -2}, {-1, -1, -2}, {0, MIN, -2}, {MAX, MAX, -2}, {3, 0, -11}, {-1, 0, -11},
            {MIN, 5, -11}, {0, 1, -13}, {0, 5, -13}, {1, 1, -13}, {2, 3, -13}};
        for (int[] t : taken) {
            refused(RefusalsTest::busy, "taken(" + t[0] + ", " + t[1] + ")", x -> x.taken(t[0], t[1]), t[2]);
        }
    }

    // ---- what only asks

    private static void asksOf(Place place) {
        check.about("in thought: what only asks changes nothing");
        for (int v = 0; v <= 10; v++) {
            int a = v;
            asked(place, "told(0, " + a + ")", x -> x.told(0, a));
            asked(place, "list(" + a + ")", x -> x.list(a));
            asked(place, "by(" + a + ")", x -> x.by(a));
            asked(place, "run(40, " + a + ")", x -> x.run(40, a));
            asked(place, "run(" + a + ", 10)", x -> x.run(a, 10));
            asked(place, "fewest(" + 7 * a + ")", x -> x.fewest(7 * a));
            asked(place, "soonest(" + a + ", 0)", x -> x.soonest(a, 0));
            asked(place, "soonest(" + a + ", 1)", x -> x.soonest(a, 1));
            asked(place, "bribe(" + a + ")", x -> x.bribe(a));
            asked(place, "drawn(" + a + ")", x -> x.drawn(a));
            asked(place, "chance(" + a + ", 20, 0)", x -> x.chance(a, 20, 0));
            asked(place, "chance(7, " + a + ", 1)", x -> x.chance(7, a, 1));
            asked(place, "count(" + a + ")", x -> x.count(a));
            asked(place, "taken(0, " + a + ")", x -> x.taken(0, a));
            asked(place, "shortest(" + a + ")", x -> x.shortest(a));
            asked(place, "order(" + a + ")", x -> x.order(a));
            asked(place, "turned(" + a + ")", x -> x.turned(a));
        }
        for (int what = 0; what <= 49; what++) {
            int a = what;
            asked(place, "tells(2, " + a + ")", x -> x.tells(2, a));
        }
        asked(place, "copy(0, 0, 0, 0, 3)", x -> x.copy(0, 0, 0, 0, 3));
        asked(place, "citizens(0, 0, 0, 0)", x -> x.citizens(0, 0, 0, 0));
    }

    private static void fault() {
        check.about("a FAULT leaves nothing but an empty TAPE");
        String[] faults = {"", "r", "reads 9;stills 9;names 9", "reads 9;stills 9;names 9;9", "reads ((((((", "reads 1+2*3",
            "reads 1+1*-1?", "reads 1;stills 1;names 1+1+1+1?", "reads 1+1;stills not 1;names not 1?", "reads 7*7*-7-7-7*not"};
        for (String fault : faults) {
            MinuteForTheUnread x = with(c(CITIZEN, 1, 2), c(POOR, 3, 4));
            x.force(text(x, "reads rank;stills 4+rank;names 5-rank;"));
            MinuteForTheUnread y = with(c(CITIZEN, 1, 2), c(POOR, 3, 4));
            y.force(text(y, "reads rank;stills 4+rank;names 5-rank;"));
            due("text() of <" + fault + "> is a FAULT", text(x, fault) <= -100 ? 1 : 0, 1);
            for (int what = 0; what <= 4; what++) {
                due("list(" + what + ") behind <" + fault + ">", x.list(what), y.list(what));
            }
            due("the next TEXT", text(x, "reads 1;stills 2;names 3;"), text(y, "reads 1;stills 2;names 3;"));
            x.force(2);
            y.force(2);
            for (int what = 0; what <= 4; what++) {
                due("list(" + what + ") by the next TEXT behind <" + fault + ">", x.list(what), y.list(what));
            }
            String want = allOf(y);
            String got = allOf(x);
            due("behind <" + fault + "> is <" + want + ">, here <" + got + ">", got.equals(want) ? 1 : 0, 1);
        }
    }

    public static void main(String[] args) {
        citizensAndBusiness();
        textsAndSittings();
        best();
        told();
        host();
        asksOf(RefusalsTest::busy);
        asksOf(RefusalsTest::full);
        fault();
        check.close("RefusalsTest");
    }
}
