/** What tests make councils of, and how they look at all that one holds. */
abstract class Scene {
    static final int MIN = Integer.MIN_VALUE, MAX = Integer.MAX_VALUE;
    static final int CITIZEN = 0, NOBLE = 1, POOR = 2, HEIR = 3, ORPHAN = 4, DEAD = 5;
    static final Check check = new Check();

    /** A call, or some, on a council. */
    interface Ask {
        long of(MinuteForTheUnread x);
    }

    static void due(String call, long got, long want) {
        check.due(call, got, want);
    }

    static MinuteForTheUnread made() {
        return new MinuteForTheUnread();
    }

    /** Citizens by kinds, numbers and bribes: as c() has them. */
    static MinuteForTheUnread with(int[]... citizens) {
        MinuteForTheUnread x = made();
        for (int i = 0; i < citizens.length; i++) {
            x.citizen(citizens[i][0], citizens[i][1]);
            x.set(3, i, citizens[i][2]);
        }
        return x;
    }

    static int[] c(int kind, int number, int bribe) {
        return new int[] {kind, number, bribe};
    }

    static int feed(MinuteForTheUnread x, String text) {
        int last = 0;
        for (int i = 0; i < text.length(); i++) {
            last = x.feed(text.charAt(i));
        }
        return last;
    }

    static int text(MinuteForTheUnread x, String text) {
        feed(x, text);
        return x.text();
    }

    /** A council whose RULE is a text of these. */
    static MinuteForTheUnread by(String reads, String stills, String names, int[]... citizens) {
        MinuteForTheUnread x = with(citizens);
        x.force(text(x, "reads " + reads + ";stills " + stills + ";names " + names + ";"));
        return x;
    }

    /** A SHEET of some sort that holds these numbers. */
    static void row(MinuteForTheUnread x, int sheet, int sort, int... numbers) {
        x.sheet(sheet, sort, numbers.length);
        for (int i = 0; i < numbers.length; i++) {
            x.cell(sheet, i, numbers[i]);
        }
    }

    /**
     * All that a council holds, THE IMAGE, the SHEETS and THE TAPE too. The council is spent by it. Of
     * longer SHEETS only such numbers are told apart as may be KINDS.
     */
    static String allOf(MinuteForTheUnread x) {
        StringBuilder all = new StringBuilder();
        for (int what = 3; what <= 5; what++) {
            all.append(x.count(what)).append(' ');
        }
        ofCouncil(x, all.append("now "));
        all.append("image ").append(x.back()).append(' ');
        ofCouncil(x, all);
        if (x.count(0) < 8) {
            x.image();
        }
        for (int sheet = 0; sheet < 4; sheet++) {
            ofSheet(x, sheet, all.append("sheet "));
        }
        feed(x, ";stills 2;names 3;");
        all.append("text ").append(x.text());
        return all.toString();
    }

    private static void ofCouncil(MinuteForTheUnread x, StringBuilder all) {
        for (int what = 0; what <= 1; what++) {
            all.append(x.told(0, what)).append(' ');
        }
        for (int i = 0; i < x.count(0); i++) {
            for (int what = 2; what <= 4; what++) {
                all.append(x.told(i, what)).append(' ');
            }
        }
        for (int i = 0; i < x.count(1); i++) {
            for (int what = 8; what <= 10; what++) {
                all.append(x.told(i, what)).append(' ');
            }
        }
    }

    private static void ofSheet(MinuteForTheUnread x, int sheet, StringBuilder all) {
        int sort = 0;
        while (sort < 3 && x.citizens(sheet, sort, 0, 0) != 0) {
            sort++;
        }
        int size = 0;
        while (size < 50 && x.copy(sheet, size + 1, sheet, size + 1, 0) == 0) {
            size++;
        }
        all.append(sort).append(" of ").append(size).append(": ");
        if (size == 1) {
            all.append(x.tells(sheet, 0)).append(' ').append(x.tells(sheet, 1)).append(' ');
        }
        for (int i = 0; i + 1 < size; i++) {
            int came = x.citizens(sheet, sort, i, 1);
            int last = x.count(0) - 1;
            all.append(came).append(x.told(last, 4)).append(x.told(last, 2)).append(' ');
            x.back();
        }
    }
}
