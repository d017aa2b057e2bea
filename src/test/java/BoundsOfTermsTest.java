/** Terms: for each sentence that names a bound, the least and the greatest, and what lies beyond them. */
public final class BoundsOfTermsTest extends Scene {
    private interface Put {
        long of(MinuteForTheUnread x, int v);
    }

    /** A number of the first citizen's or the council's own, at first 0 or another. */
    private static void kept(String sentence, Put put, Ask told, int first, int most) {
        check.about(sentence);
        MinuteForTheUnread x = with(c(CITIZEN, 0, 0));
        due("at first", told.of(x), first);
        due("the greatest comes", put.of(x, most), first);
        due("the greatest", told.of(x), most);
        due("the least comes", put.of(x, 0), most);
        due("the least", told.of(x), 0);
        due("the greatest again", put.of(x, most), 0);
        for (int v : new int[] {-1, most + 1, MIN, MAX}) {
            due(v + " is refused", put.of(x, v), -2);
            due("it stays ahead of " + v, told.of(x), most);
        }
    }

    private static void numbersThatAreKept() {
        kept("SITTING (0 .. 999; 0 at first)", (x, v) -> x.set(0, 0, v), x -> x.told(0, 0), 0, 999);
        kept("LENGTH of one (0 .. 600 minutes; 60 at first)", (x, v) -> x.set(1, 0, v), x -> x.told(0, 1), 60, 600);
        kept("a NUMBER (0 .. 9)", (x, v) -> x.set(2, 0, v), x -> x.told(0, 2), 0, 9);
        kept("a BRIBE (0 .. 99; 0 as one comes)", (x, v) -> x.set(3, 0, v), x -> x.told(0, 3), 0, 99);
        MinuteForTheUnread x = made();
        x.image();
        x.citizen(CITIZEN, 5);
        x.set(3, 0, 50);
        x.back();
        x.citizen(CITIZEN, 5);
        due("0 as one comes in another's stead", x.told(0, 3), 0);
    }

    private static void citizensAndItems() {
        check.about("CITIZENS (8 at most, numbered from 0)");
        MinuteForTheUnread x = made();
        due("none is there", x.told(0, 2), -2);
        for (int i = 0; i < 8; i++) {
            due("the next", x.citizen(CITIZEN, 9 - i), i);
        }
        due("a ninth", x.citizen(CITIZEN, 0), -4);
        due("the first", x.told(0, 2), 9);
        due("the eighth", x.told(7, 2), 2);
        due("no ninth", x.told(8, 2), -2);
        check.about("ITEMS of business (6 at most, numbered from 0)");
        due("none is there", x.told(0, 8), -2);
        for (int i = 0; i < 6; i++) {
            due("the next", x.business(9 - i), i);
        }
        due("a seventh", x.business(1), -4);
        due("the first", x.told(0, 8), 9);
        due("the sixth", x.told(5, 8), 4);
        due("no seventh", x.told(6, 8), -2);
    }

    private static void kindsAndNumbers() {
        check.about("have a KIND: 0 .. 5; a NUMBER (0 .. 9)");
        MinuteForTheUnread x = made();
        for (int wrong : new int[] {-1, 6, MIN, MAX}) {
            due("KIND " + wrong, x.citizen(wrong, 0), -2);
        }
        for (int wrong : new int[] {-1, 10, MIN, MAX}) {
            due("NUMBER " + wrong, x.citizen(0, wrong), -2);
        }
        for (int kind = 0; kind <= 5; kind++) {
            due("KIND " + kind, x.citizen(kind, kind % 2 * 9), kind);
            due("its KIND", x.told(kind, 4), kind);
            due("its NUMBER", x.told(kind, 2), kind % 2 * 9);
        }
    }

    private static void itemsMinutes() {
        check.about("each takes so long (1 .. 999 minutes), is done so far (0 at first), DONE at a SITTING, or not yet");
        MinuteForTheUnread x = made();
        x.image();
        for (int wrong : new int[] {0, -1, 1000, MIN, MAX}) {
            due(wrong + " minutes", x.business(wrong), -2);
        }
        due("1 minute", x.business(1), 0);
        due("999 minutes", x.business(999), 1);
        due("it takes 1", x.told(0, 8), 1);
        due("it takes 999", x.told(1, 8), 999);
        due("0 at first", x.told(0, 9), 0);
        due("not yet", x.told(0, 10), -1);
        x.sit();
        x.back();
        x.business(5);
        due("0 at first in another's stead", x.told(0, 9), 0);
        due("not yet in another's stead", x.told(0, 10), -1);
    }

    private static void constants() {
        check.about("NONE is -1; NO, where a long is answered, -4611686018427387904; BAD (-2), STATE (-3), FULL (-4)");
        due("NONE", MinuteForTheUnread.NONE, -1);
        due("BAD", MinuteForTheUnread.BAD, -2);
        due("STATE", MinuteForTheUnread.STATE, -3);
        due("FULL", MinuteForTheUnread.FULL, -4);
        due("NO", MinuteForTheUnread.NO, -4611686018427387904L);
    }

    // ---- who is READ

    private static void read(String who, MinuteForTheUnread x, boolean want) {
        due(who + " IS READ", x.told(0, 5), want ? 1 : 0);
    }

    private static void readByYes() {
        String[] yes = {"1", "2", "0-1", "9999", "61", "256*256*256*128", "256*256*256*128-1", "-9999"};
        String[] no = {"0", "00", "1-1", "-0", "256*256*256*256", "2*256*256*256*128", "not 1"};
        for (String reads : yes) {
            check.about("IS READ (reads telling yes, if it isn't 0): reads " + reads);
            read("CITIZEN", by(reads, "1", "1", c(CITIZEN, 0, 0)), true);
            read("POOR of BRIBE 0", by(reads, "1", "1", c(POOR, 0, 0)), false);
            read("POOR of BRIBE 1", by(reads, "1", "1", c(POOR, 0, 1)), true);
            read("ORPHAN of BRIBE 0", by(reads, "1", "1", c(ORPHAN, 9, 0)), false);
            read("ORPHAN of BRIBE 1", by(reads, "1", "1", c(ORPHAN, 9, 1)), true);
            read("DEAD", by(reads, "1", "1", c(DEAD, 0, 99)), false);
        }
        for (String reads : no) {
            check.about("IS READ (reads telling yes, if it isn't 0): reads " + reads);
            read("CITIZEN", by(reads, "1", "1", c(CITIZEN, 9, 99)), false);
            read("NOBLE", by(reads, "1", "1", c(NOBLE, 0, 0)), true);
            read("POOR of BRIBE 99", by(reads, "1", "1", c(POOR, 0, 99)), false);
            read("HEIR", by(reads, "1", "1", c(HEIR, 1, 0)), true);
        }
    }

    private static void readOfHeir() {
        check.about("HEIR: if SITTING modulo 10 isn't NUMBER");
        for (int number = 0; number <= 9; number++) {
            MinuteForTheUnread x = by("1", "1", "1", c(HEIR, number, 99));
            for (int sitting : new int[] {0, 1, 8, 9, 10, 11, 19, 20, 100, 109, 995, 990, 998, 999}) {
                x.set(0, 0, sitting);
                read("NUMBER " + number + " in SITTING " + sitting, x, !("" + sitting).endsWith("" + number));
            }
        }
        MinuteForTheUnread x = by("0", "0", "1", c(HEIR, 0, 0));
        x.set(0, 0, 999);
        x.set(1, 0, 1);
        x.business(1);
        due("READ in 999", x.run(1, 10), -1);
        due("not READ in 1000", x.run(40, 10), 1000);
    }

    private static void readOfOrphan() {
        check.about("ORPHAN: as a POOR, or if b is NUMBER times 10 or more");
        for (int number = 0; number <= 9; number++) {
            MinuteForTheUnread x = by("0", "1", "1", c(ORPHAN, number, 0));
            read("BRIBE 0, NUMBER " + number, x, number == 0);
            x.set(3, 0, number * 10);
            read("as much as NUMBER " + number + " times 10", x, true);
            x.set(3, 0, Math.max(0, number * 10 - 1));
            read("1 less than NUMBER " + number + " times 10", x, number == 0);
        }
    }

    private static void readAmongOthers() {
        check.about("IS READ: by one's own NUMBER, BRIBE, KIND");
        MinuteForTheUnread x = by("1", "1", "1", c(POOR, 9, 99), c(POOR, 9, 0), c(HEIR, 1, 0), c(HEIR, 0, 0), c(ORPHAN, 0, 0),
            c(ORPHAN, 1, 0), c(DEAD, 0, 99), c(POOR, 0, 1));
        int[] read = {1, 0, 1, 0, 1, 0, 0, 1};
        for (int i = 0; i < 8; i++) {
            due(i + " IS READ", x.told(i, 5), read[i]);
        }
        MinuteForTheUnread y = by("0", "1", "1", c(ORPHAN, 9, 0), c(ORPHAN, 5, 50), c(ORPHAN, 5, 49), c(HEIR, 0, 0), c(HEIR, 9, 0));
        due("THE LIST", y.list(0), 2 + 16);
    }

    // ---- how long

    private static void silencesAndTimes() {
        String[] told = {"0", "1", "2", "3", "59", "60", "61", "9999", "0-1", "256*256*256*128", "256*256*256*256"};
        int[] v = {0, 1, 2, 3, 59, 60, 60, 60, 0, 0, 0};
        int[] half = {0, 0, 1, 1, 29, 30, 30, 30, 0, 0, 0};
        for (int i = 0; i < told.length; i++) {
            check.about("SILENCE, stills telling " + told[i] + " (0 .. 60, else the bound; half (cut))");
            MinuteForTheUnread x = by("0", told[i], told[i], c(CITIZEN, 9, 0), c(NOBLE, 9, 0), c(POOR, 9, 0), c(HEIR, 9, 0),
                c(ORPHAN, 9, 0), c(DEAD, 9, 0), c(HEIR, 0, 0), c(NOBLE, 0, 0));
            int[] silences = {v[i], 2 * v[i], half[i], 2 * v[i] + 9, half[i] + 2, 1, 2 * v[i], 2 * v[i]};
            for (int of = 0; of < 8; of++) {
                due("SILENCE for " + of, x.told(of, 6), silences[of]);
            }
            check.about("TIME, names telling " + told[i] + " (0 .. 60, else the bound)");
            int[] times = {v[i], v[i] + 9, v[i], v[i] + 9, v[i], v[i], v[i], v[i]};
            for (int of = 0; of < 8; of++) {
                due("TIME of " + of, x.told(of, 7), times[of]);
            }
        }
    }

    private static void timeOfOrphan() {
        check.about("ORPHAN: 0, if SITTING is odd, else as a POOR");
        MinuteForTheUnread x = by("1", "0", "1", c(ORPHAN, 0, 0), c(POOR, 0, 0));
        for (int sitting : new int[] {0, 1, 2, 3, 997, 998, 999}) {
            x.set(0, 0, sitting);
            due("ORPHAN's in SITTING " + sitting, x.told(0, 7), sitting % 2 == 1 ? 0 : 1);
            due("POOR's in SITTING " + sitting, x.told(1, 7), 1);
        }
        MinuteForTheUnread y = by("1", "0", "1", c(ORPHAN, 0, 0));
        y.set(0, 0, 999);
        y.set(1, 0, 1);
        y.business(2);
        due("none is left in 1000", y.run(2, 10), -1);
        due("one is left in 1001", y.run(3, 10), 1001);
    }

    // ---- texts

    private static String blanks(int n) {
        return " ".repeat(n);
    }

    private static void tape() {
        check.about("THE TAPE (160 bytes at most)");
        String text = "reads 1;stills 2;names 3";
        MinuteForTheUnread x = made();
        due("160 bytes", feed(x, text + blanks(159 - text.length()) + ";"), 160);
        due("one more", x.feed(' '), -4);
        due("one more that is none", x.feed(256), -2);
        due("it has", x.count(4), 160);
        due("it is whole", x.text(), 1);
        due("it is empty then", x.count(4), 0);
        due("a first byte again", x.feed(0), 1);
        due("that ends too early", text(made(), text + blanks(160 - text.length())), -260);
        due("with a last byte that can't stand there", text(made(), text + ";" + blanks(134) + "1"), -259);
        due("empty", made().text(), -100);
        due("that ends in a WORD", text(made(), blanks(155) + "reads"), -260);
        due("that ends in no WORD", text(made(), blanks(155) + "bribe"), -255);
        due("that ends in a NUMBER", text(made(), "reads" + blanks(151) + "9999"), -260);
        due("that ends in a NUMBER that is too long", text(made(), "reads" + blanks(150) + "99999"), -255);
        due("that ends in a (", text(made(), "reads" + blanks(154) + "("), -260);
        String numbers = "1" + "+1".repeat(67);
        x = made();
        x.citizen(CITIZEN, 0);
        due("as many TOKENS as can be", text(x, "reads " + numbers + ";stills 2;names 3;"), 1);
        x.force(1);
        due("who is READ by it", x.list(0), 1);
    }

    private static void emptyTape() {
        check.about("THE TAPE, which is empty then: nothing of what stood there is read again");
        String[] before = {"reads".repeat(30), "9".repeat(150), " ".repeat(150), "(".repeat(150), ";".repeat(150)};
        String[] texts = {"reads", "reads 1", "reads 1;stills 1;names 9999", "reads (", "reads 1 ", "reads 1;stills 1;names 1",
            "", "reads 1;stills 1;names not"};
        for (String first : before) {
            for (String then : texts) {
                MinuteForTheUnread x = made();
                text(x, first);
                due("<" + then + "> behind <" + first + ">", text(x, then), -100 - then.length());
            }
            MinuteForTheUnread x = made();
            text(x, first);
            due("a TEXT behind <" + first + ">", text(x, "reads 1;stills 1;names 1;"), 1);
        }
    }

    private static void fault(String text, int place) {
        MinuteForTheUnread x = made();
        due("text() of <" + text + ">", text(x, text), -100 - place);
        due("the same with another behind it", text(x, "reads 1;stills 1;names 1;"), 1);
    }

    private static void whole(String text) {
        due("text() of <" + text + ">", text(made(), text), 1);
    }

    private static void tokens() {
        check.about("TOKENS, each as long as can be");
        whole("reads 1or 2and 3;stills 1;names 1;");
        whole("reads number+bribe*sitting-read<rank;stills asked;names(1);");
        fault("reads orread;stills 1;names 1;", 6);
        fault("reads 1 or read2;stills 1;names 1;", 15);
        fault("readsbribe;stills 1;names 1;", 0);
        fault("reads notnot 1;stills 1;names 1;", 6);
        check.about("NUMBERS (as many digits as stand there, 4 at most)");
        whole("reads 9999;stills 0000;names 0;");
        fault("reads 10000;stills 1;names 1;", 6);
        fault("reads 00000;stills 1;names 1;", 6);
        fault("reads 1 + 99999 x;stills 1;names 1;", 10);
        fault("reads 1;stills 1;names 1;12345", 25);
        fault("reads 1 1;stills 1;names 1;", 8);
    }

    /** What a byte behind reads 1 makes: it stands where a sign, a digit or a blank may. */
    private static int behindANumber(int letter) {
        if (letter == 32 || letter == 10 || letter >= '0' && letter <= '9') {
            return 1;
        }
        return letter == ';' || "+-*<=".indexOf(letter) >= 0 ? -108 : -107;
    }

    /** What a byte behind reads makes: a letter makes another WORD of it. */
    private static int behindAWord(int letter) {
        if (letter >= 'a' && letter <= 'z') {
            return -100;
        }
        boolean mayStand = letter == 32 || letter == 10 || letter >= '0' && letter <= '9' || letter == '-';
        return mayStand ? 1 : letter == '(' ? -107 : -105;
    }

    private static void bytes() {
        check.about("SIGNS ( ) ; + - * < = ; blanks (32, 10) may stand between; a byte that begins none");
        for (int letter = 0; letter <= 255; letter++) {
            due("byte " + letter, text(made(), "reads 1" + (char) letter + ";stills 1;names 1;"), behindANumber(letter));
            due("byte " + letter + " behind a WORD", text(made(), "reads" + (char) letter + "1;stills 1;names 1;"),
                behindAWord(letter));
            int first = letter == 32 || letter == 10 ? 1 : -100;
            due("byte " + letter + " first", text(made(), (char) letter + "reads 1;stills 1;names 1;"), first);
            int last = letter == 32 || letter == 10 ? 1 : -125;
            due("byte " + letter + " last", text(made(), "reads 1;stills 1;names 1;" + (char) letter), last);
        }
        check.about("blanks (32, 10) may stand between");
        whole(" \n reads\n\n1 \n;\nstills  1\n; names\n1 \n; \n\n");
        whole("reads(1);stills(1);names(1);");
        fault("re ads 1;stills 1;names 1;", 0);
        fault("reads 1\n2;stills 1;names 1;", 8);
    }

    /** A word with each of its letters in turn another one, without its last, and with one more. */
    private static String[] misspelt(String word) {
        String[] all = new String[word.length() + 2];
        for (int i = 0; i < word.length(); i++) {
            all[i] = word.substring(0, i) + "q" + word.substring(i + 1);
        }
        all[word.length()] = word + "q";
        all[word.length() + 1] = "q" + word;
        return all;
    }

    private static void words() {
        String[] names = {"number", "bribe", "sitting", "read", "rank", "asked"};
        String[] keys = {"reads", "stills", "names", "or", "and", "not"};
        check.about("a WORD that is neither KEY nor NAME");
        for (String name : names) {
            whole("reads " + name + ";stills 1;names 1;");
            fault("reads 1 + " + name + "s;stills 1;names 1;", 10);
            fault("reads 1 + " + name.substring(1) + ";stills 1;names 1;", 10);
            fault("reads 1 " + name + ";stills 1;names 1;", 8);
        }
        for (String name : names) {
            for (String other : misspelt(name)) {
                fault("reads 1 + " + other + ";stills 1;names 1;", 10);
            }
        }
        for (String key : new String[] {"or", "and"}) {
            for (String other : misspelt(key)) {
                fault("reads 1 " + other + " 1;stills 1;names 1;", 8);
            }
        }
        for (String other : misspelt("reads")) {
            fault(other + " 1;stills 1;names 1;", 0);
        }
        for (String other : misspelt("stills")) {
            fault("reads 1;" + other + " 1;names 1;", 8);
        }
        for (String other : misspelt("names")) {
            fault("reads 1;stills 1;" + other + " 1;", 17);
        }
        for (String other : misspelt("not")) {
            fault("reads " + other + " 1;stills 1;names 1;", 6);
        }
        check.about("the first TOKEN that can't stand there");
        for (String key : keys) {
            fault("reads 1 + " + key + " 1;stills 1;names 1;", 10);
            fault(key + "x 1;stills 1;names 1;", 0);
            if (!key.equals("reads")) {
                fault(key + " 1;stills 1;names 1;", 0);
            }
            if (!key.equals("not")) {
                fault("reads " + key + " 1;stills 1;names 1;", 6);
            }
        }
    }

    private static void endsTooEarly() {
        check.about("the text's size, if it ends too early");
        String text = "reads not(-1*2<number);stills 2=2or 3;names 4-bribe;";
        String[] pieces = {"reads", " ", "not", "(", "-", "1", "*", "2", "<", "number", ")", ";", "stills", " ", "2", "=", "2",
            "or", " ", "3", ";", "names", " ", "4", "-", "bribe"};
        StringBuilder ahead = new StringBuilder();
        for (String piece : pieces) {
            fault(ahead.toString(), ahead.length());
            ahead.append(piece);
        }
        fault(ahead.toString(), ahead.length());
        whole(ahead + ";");
        due("it is the text", (ahead + ";").equals(text) ? 1 : 0, 1);
        fault(ahead + "  \n ", ahead.length() + 4);
        fault(" ", 1);
        fault("\n", 1);
    }

    private static void grammar() {
        String[] singles = {"", ")", ";", "1)", "()", "(1", "1 2", "1 bribe", "bribe 1", "1 (2)", "(1)(2)", "1 not", "1 or", "1 and",
            "1 <", "1 +", "1 *", "1 -", "* 1", "+ 1", "< 1", "= 1", "or 1", "and 1", "1 or or 1", "1 and and 1", "1 < < 2",
            "1 = = 2", "1 < = 2", "1 < 2 < 3", "1 < 2 = 3", "1 + not 1", "1 * not 1", "1 < not 1", "- not 1", "(1 < 2) not",
            "1 + + 1", "1 - * 1", "not", "-", "(", "not )", "- )"};
        int[] places = {0, 0, 0, 1, 1, 2, 2, 2, 6, 2, 3, 2, 4, 5, 3, 3, 3, 3, 0, 0, 0, 0, 0, 0, 5, 6, 4, 4, 4, 6, 6, 4, 4, 4, 2, 8,
            4, 4, 3, 1, 1, 4, 2};
        check.about("the place of the first byte of the first TOKEN that can't stand there");
        for (int i = 0; i < singles.length; i++) {
            fault("reads " + singles[i] + ";stills 1;names 1;", 6 + places[i]);
            fault("reads 1;stills 1;names " + singles[i] + ";", 23 + places[i]);
        }
        fault("reads 1 stills 1;names 1;", 8);
        fault("reads 1;stills 1;", 17);
        fault("reads 1;stills 1;stills 1;", 17);
        fault("reads 1;stills 1;names 1;reads 1;", 25);
        fault("reads 1;stills 1;names 1;;", 25);
        fault(";reads 1;stills 1;names 1;", 0);
        fault("1", 0);
        fault("bribe", 0);
    }

    // ---- five may be open

    private static void open() {
        check.about("a ( , a not, a - ahead of a ONE while 5 of these are open");
        String[] ones = {"(", "not ", "- "};
        String rest = ";stills 1;names 1;";
        fault("reads ((((((1))))))" + rest, 11);
        fault("reads not not not not not not 1" + rest, 26);
        fault("reads - - - - - - 1" + rest, 16);
        whole("reads (((((1)))))" + rest);
        whole("reads not not not not not 1" + rest);
        whole("reads - - - - - 1" + rest);
        for (String last : ones) {
            String sixth = last + (last.equals("(") ? "1)" : "1");
            if (!last.equals("not ")) {
                fault("reads - - - - - " + sixth + rest, 16);
                fault("reads (not - (- " + sixth + "))" + rest, 16);
            }
            fault("reads (((((" + sixth + ")))))" + rest, 11);
            fault("reads not not not not not " + sixth + rest, 26);
        }
        whole("reads not(not(- 1))" + rest);
        whole("reads not(-(- 1))" + rest);
        fault("reads not(-(not - 1))" + rest, 16);
        fault("reads 1;stills 1;names ((((((", 28);
    }

    private static void openBehind() {
        check.about("a ( , a not, a - ahead of a ONE while 5 of these are open: behind each operator");
        String rest = ";stills 1;names 1;";
        for (String sign : new String[] {"or", "and", "<", "=", "+", "-", "*"}) {
            String behind = "1 " + sign + " ";
            int sixth = 6 + 5 + behind.length();
            fault("reads (((((" + behind + "(1))))))" + rest, sixth);
            fault("reads (((((" + behind + "-1)))))" + rest, sixth);
            whole("reads ((((" + behind + "(1)))))" + rest);
            whole("reads ((((" + behind + "-1))))" + rest);
            whole("reads (((((" + behind + "1)))))" + rest);
        }
        for (String word : new String[] {"or", "and"}) {
            fault("reads (((((1 " + word + " not 1)))))" + rest, 14 + word.length());
            whole("reads ((((1 " + word + " not 1))))" + rest);
        }
        fault("reads (((((1 or 1 or (1))))))" + rest, 21);
        fault("reads (((((1 and 1 and (1))))))" + rest, 23);
        fault("reads (((((1 + 1 + (1))))))" + rest, 19);
        fault("reads (((((1 * 1 * (1))))))" + rest, 19);
    }

    private static void closed() {
        check.about("(a ( till its ) , not and - till what they belong to ends)");
        String rest = ";stills 1;names 1;";
        whole("reads (((((1)))))+(((((1)))))" + rest);
        whole("reads ((((1)+(1))*(1))<(1))or(((((1)))))" + rest);
        fault("reads ((((1)+((1)))))+((((((1))))))" + rest, 27);
        whole("reads not not not not not 1 and not not not not not 1 or not 1" + rest);
        fault("reads not not not not not 1 < (1)" + rest, 30);
        fault("reads not not not not not 1 + (1)" + rest, 30);
        fault("reads not not not not not 1 - - 1" + rest, 30);
        whole("reads not not not not 1 = (1)" + rest);
        whole("reads not not not not not 1 and (1)" + rest);
        whole("reads not not not not not 1 - 1" + rest);
        whole("reads - - - - - 1 - - - - - - 1" + rest);
        whole("reads - - - - - 1 * (((((1)))))" + rest);
        whole("reads - - - - (1) + - - - - - 1" + rest);
        fault("reads - - - - (1 + - 1)" + rest, 19);
        whole("reads (((((1 - 1 - 1)))))" + rest);
        whole("reads (((((1)))));stills (((((1)))));names - - - - - 1;");
        whole("reads not not not not not 1;stills not not not not not 1;names (((((1)))));");
        fault("reads not not not not not 1;stills ((((((1))))));names 1;", 40);
    }

    // ---- what an E is

    /** An E, held against numbers by a text that reads whom it is for. */
    private static void value(String e, String other) {
        MinuteForTheUnread x = by("(" + e + ")=(" + other + ")", "1", "1", c(CITIZEN, 0, 0));
        due(e + " is " + other, x.list(0), 1);
        MinuteForTheUnread y = by("not((" + e + ")=(" + other + "))", "1", "1", c(CITIZEN, 0, 0));
        due("not: " + e + " is " + other, y.list(0), 0);
    }

    private static void wraps() {
        check.about("An E is an int (32 bits, wrapping)");
        String least = "256*256*256*128";
        value(least + "<0", "1");
        value(least + "-1<0", "0");
        value("0<" + least + "-1", "1");
        value("-(" + least + ")", least);
        value("-(" + least + "-1)", least + "+1");
        value(least + "-1+1", least);
        value("0-" + least, least);
        value("256*256*256*256", "0");
        value("256*256*256*255+256*256*256", "0");
        value("256*256*256*128*2", "0");
        value("(" + least + "-1)*2", "0-2");
        value("-(256*256*256*128-1)-2", least + "-1");
        value("9999*9999", "999*9999*10+9*9999");
        value("9999*9999*9999<0", "1");
        value("4 - - 3", "7");
        value("4 - - - 3", "1");
        value("2 * - 5", "0 - 10");
        value("1 + 2 * - (3 - 5)", "5");
        value("- 2 - - 2 * - 2", "0 - 6");
        value("1 + (not 0) * 5", "6");
        check.about("of or, and, not, <, = 1 or 0 (what is not 0 is true)");
        value(least + "<1", "1");
        value("1<" + least, "0");
        value(least + "=0", "0");
        value("not " + least, "0");
        value("0<0", "0");
        value("0<1", "1");
        value("-1<0", "1");
        value("0=0", "1");
        value("7 or 0", "1");
        value("0 or -7", "1");
        value("0 or 0", "0");
        value("7 and -7", "1");
        value("7 and 0", "0");
        value("0 and 7", "0");
        value("1 and 2", "1");
        value("not 0", "1");
        value("not -1", "0");
        value("not 2", "0");
        value(least + " and " + least, "1");
        value("256*256*256*256 or 0", "0");
    }

    // ---- names

    private static void name(String name, Ask scene, int want) {
        MinuteForTheUnread x = made();
        int of = (int) scene.of(x);
        x.force(text(x, "reads (" + name + ")=" + want + ";stills " + name + ";names " + name + ";"));
        due("stills " + name, x.told(of, 6), Math.min(60, want));
        due("names " + name, x.told(of, 7), Math.min(60, want));
        due("reads " + name, x.told(of, 5), 1);
    }

    private static int some(MinuteForTheUnread x, int citizens, int number, int bribe, int sitting) {
        for (int i = 0; i < citizens; i++) {
            x.citizen(CITIZEN, number);
            x.set(3, i, bribe);
        }
        x.set(0, 0, sitting);
        return citizens - 1;
    }

    private static void names() {
        check.about("number: NUMBER; bribe: BRIBE; sitting: SITTING; rank: the CITIZEN's own number; asked");
        name("number", x -> some(x, 1, 0, 0, 0), 0);
        name("number", x -> some(x, 1, 9, 0, 0), 9);
        name("bribe", x -> some(x, 1, 0, 0, 0), 0);
        name("bribe", x -> some(x, 1, 0, 60, 0), 60);
        name("bribe", x -> some(x, 1, 0, 99, 0), 99);
        name("sitting", x -> some(x, 1, 0, 0, 0), 0);
        name("sitting", x -> some(x, 1, 0, 0, 999), 999);
        name("rank", x -> some(x, 1, 0, 0, 0), 0);
        name("rank", x -> some(x, 8, 0, 0, 0), 7);
        name("asked", x -> some(x, 1, 0, 0, 0), 1);
        name("asked", x -> some(x, 8, 0, 0, 0), 8);
        String[] names = {"number", "bribe", "rank", "asked"};
        int[][] ofEach = {{1, 2, 3}, {6, 5, 4}, {0, 1, 2}, {3, 3, 3}};
        for (int n = 0; n < names.length; n++) {
            MinuteForTheUnread x = by("1", names[n], names[n], c(CITIZEN, 1, 6), c(CITIZEN, 2, 5), c(CITIZEN, 3, 4));
            for (int i = 0; i < 3; i++) {
                due("SILENCE by " + names[n] + " of " + i, x.told(i, 6), ofEach[n][i]);
                due("TIME by " + names[n] + " of " + i, x.told(i, 7), ofEach[n][i]);
            }
        }
        MinuteForTheUnread y = by("1000<sitting", "0", "1", c(CITIZEN, 0, 0));
        y.set(0, 0, 999);
        y.set(1, 0, 1);
        y.business(2);
        due("sitting may pass 999 in thought", y.run(40, 10), 1000);
        y.business(1);
        due("from 1001 on all is gone", y.run(40, 11), -1);
    }

    private static void namesOfThoseAhead() {
        check.about("read: how many CITIZENS of lesser number are READ");
        MinuteForTheUnread x = by("not rank=3", "read", "read", c(0, 0, 0), c(0, 0, 0), c(0, 0, 0), c(0, 0, 0), c(0, 0, 0),
            c(0, 0, 0), c(0, 0, 0), c(0, 0, 0));
        int[] ahead = {0, 1, 2, 3, 3, 4, 5, 6};
        for (int i = 0; i < 8; i++) {
            due("SILENCE of " + i + ", READ or not", x.told(i, 6), ahead[i]);
            due("TIME of " + i + ", READ or not", x.told(i, 7), ahead[i]);
            due("whether " + i + " IS READ", x.told(i, 5), i == 3 ? 0 : 1);
        }
        due("THE LIST", x.list(0), 255 - 8);
        MinuteForTheUnread y = by("read=0", "1", "1", c(0, 0, 0), c(0, 0, 0), c(1, 0, 0), c(0, 0, 0));
        due("THE LIST (read: by those ahead)", y.list(0), 1 + 4);
        for (int i = 0; i < 4; i++) {
            due("whether " + i + " IS READ (read: by those ahead)", y.told(i, 5), i % 2 == 0 ? 1 : 0);
        }
        MinuteForTheUnread z = by("read=7", "1", "1", c(1, 0, 0), c(1, 0, 0), c(1, 0, 0), c(1, 0, 0), c(1, 0, 0), c(1, 0, 0),
            c(1, 0, 0), c(0, 0, 0));
        due("seven ahead", z.list(0), 255);
    }

    private static void texts() {
        check.about("There are 6 TEXTS at most, TEXT 0 with them; TEXT 0, at first THE RULE");
        MinuteForTheUnread x = with(c(CITIZEN, 0, 0), c(CITIZEN, 0, 1), c(CITIZEN, 0, 99));
        due("TEXTS at first", x.count(3), 1);
        due("THE RULE at first", x.count(5), 0);
        due("reads bribe", x.list(0), 6);
        due("stills 3", x.told(0, 6), 3);
        due("names 1", x.told(0, 7), 1);
        for (int t = 1; t <= 5; t++) {
            due("a TEXT", text(x, "reads rank=" + t + ";stills " + t + ";names 0;"), t);
        }
        feed(x, "reads 1;stills 1;names 1;");
        due("one more", x.text(), -4);
        due("THE TAPE stays", x.count(4), 25);
        due("TEXTS", x.count(3), 6);
        due("the last", x.force(5), 0);
        due("by the last", x.told(0, 6), 5);
        due("no more", x.force(6), -2);
    }

    // ---- SHEETS

    private static void sheets() {
        check.about("SHEETS 0 .. 3 are rows of numbers, or missing (as all are at first): of sort 0 bytes, 1 shorts, 2 ints");
        for (int sheet = 0; sheet <= 3; sheet++) {
            MinuteForTheUnread x = made();
            due("missing at first: cell()", x.cell(sheet, 0, 0), -11);
            due("missing at first: copy()", x.copy(sheet, 0, sheet, 0, 0), -11);
            due("missing at first: tells()", x.tells(sheet, 0), -11);
            for (int sort = 0; sort <= 2; sort++) {
                due("missing at first: citizens()", x.citizens(sheet, sort, 0, 0), -11);
            }
            for (int sort = 0; sort <= 2; sort++) {
                due("of sort " + sort, x.sheet(sheet, sort, 1), 1);
                for (int other = 0; other <= 2; other++) {
                    due("taken for one of sort " + other, x.citizens(sheet, other, 0, 0), sort == other ? 0 : -13);
                }
            }
            for (int other = 0; other <= 3; other++) {
                due("SHEET " + other, x.cell(other, 0, 0), other == sheet ? 1 : -11);
            }
        }
        MinuteForTheUnread x = made();
        for (int sheet : new int[] {-1, 4, MIN, MAX}) {
            due("sheet() of " + sheet, x.sheet(sheet, 0, 1), -2);
            due("cell() of " + sheet, x.cell(sheet, 0, 0), -2);
            due("copy() of " + sheet, x.copy(sheet, 0, 0, 0, 0), -2);
            due("copy() to " + sheet, x.copy(0, 0, sheet, 0, 0), -2);
            due("tells() of " + sheet, x.tells(sheet, 0), -2);
            due("film() of " + sheet, x.film(sheet), -2);
            due("citizens() of " + sheet, x.citizens(sheet, 0, 0, 0), -2);
        }
    }

    public static void main(String[] args) {
        numbersThatAreKept();
        citizensAndItems();
        kindsAndNumbers();
        itemsMinutes();
        constants();
        readByYes();
        readOfHeir();
        readOfOrphan();
        readAmongOthers();
        silencesAndTimes();
        timeOfOrphan();
        tape();
        emptyTape();
        tokens();
        bytes();
        words();
        endsTooEarly();
        grammar();
        open();
        openBehind();
        closed();
        wraps();
        names();
        namesOfThoseAhead();
        texts();
        sheets();
        check.close("BoundsOfTermsTest");
    }
}
