/** Long runs of drawn calls, the same each time, on the program and on the Model: all answers must be alike. */
public final class ModelTest {
    private static final int RUNS = 600, CALLS = 512;

    private static long seed;

    /** 0 .. n - 1, by a generator of the test's own. */
    private static int draw(int n) {
        seed = seed * 6364136223846793005L + 1442695040888963407L;
        return (int) ((seed >>> 33) % n);
    }

    private static int number(int from, int to) {
        int[] wild = {from - 1, to + 1, -1, 0, 1, 99, 1000, Integer.MIN_VALUE, Integer.MAX_VALUE, -1000};
        return draw(25) == 0 ? wild[draw(wild.length)] : from + draw(to - from + 1);
    }

    private static String expression(int depth) {
        String[] names = {"number", "bribe", "sitting", "read", "rank", "asked"};
        int kind = depth == 0 ? draw(3) : draw(13);
        switch (kind) {
            case 0: case 1: return names[draw(6)];
            case 2: return "" + (draw(5) == 0 ? draw(10000) : draw(30));
            case 3: return expression(depth - 1) + " or " + expression(depth - 1);
            case 4: return expression(depth - 1) + " and " + expression(depth - 1);
            case 5: return "not " + expression(depth - 1);
            case 6: return expression(depth - 1) + "<" + expression(depth - 1);
            case 7: return expression(depth - 1) + "=" + expression(depth - 1);
            case 8: return expression(depth - 1) + "+" + expression(depth - 1);
            case 9: return expression(depth - 1) + "*" + expression(depth - 1);
            case 10: return "-" + expression(depth - 1);
            case 11: return expression(depth - 1) + " - " + expression(depth - 1);
            default: return "(" + expression(depth - 1) + ")";
        }
    }

    private static String text() {
        String text = "reads " + expression(draw(4)) + ";stills " + expression(draw(3)) + ";names "
            + expression(draw(3)) + ";";
        if (draw(4) == 0) {
            text = scratched(text);
        }
        return text.length() <= 160 ? text : text.substring(0, 160);
    }

    private static String scratched(String text) {
        String[] pieces = {"", " ", "\n", "x", "not ", "-", "((((((", "- - - - - -", "12345", "0000", ";", ")", "<1<", "%",
            "not not not not not not ", "and", "Z"};
        int from = draw(text.length() + 1);
        int to = Math.min(text.length(), from + draw(3));
        return text.substring(0, from) + pieces[draw(pieces.length)] + text.substring(to);
    }

    /** A KIND or a NUMBER where they are asked for, so that rows that are copied show as CITIZENS. */
    private static int cellValue() {
        if (draw(6) == 0) {
            return draw(6) + (draw(2) == 0 ? 256 : 65536) * (draw(5) - 2);
        }
        return draw(4) == 0 ? number(-40000, 70000) : draw(2) == 0 ? number(0, 40) : number(0, 9);
    }

    private static String call(Check check, MinuteForTheUnread x, Model y) {
        int a = number(0, 3);
        int b;
        int c;
        switch (draw(33)) {
            case 0:
                b = number(0, 7);
                c = draw(6) == 0 ? number(0, 999) : a == 1 ? number(0, 80) : a == 2 ? number(0, 9) : number(0, 99);
                return due(check, "set(" + a + ", " + b + ", " + c + ")", x.set(a, b, c), y.set(a, b, c));
            case 1:
                a = number(0, 5);
                b = number(0, 9);
                return due(check, "citizen(" + a + ", " + b + ")", x.citizen(a, b), y.citizen(a, b));
            case 2:
                a = draw(3) == 0 ? number(1, 999) : number(1, 90);
                return due(check, "business(" + a + ")", x.business(a), y.business(a));
            case 3: case 4: case 5:
                a = number(0, 8);
                b = number(0, 10);
                return due(check, "told(" + a + ", " + b + ")", x.told(a, b), y.told(a, b));
            case 6:
                a = number(0, 5);
                return due(check, "force(" + a + ")", x.force(a), y.force(a));
            case 7:
                a = number(0, 4);
                return due(check, "list(" + a + ")", x.list(a), y.list(a));
            case 8:
                a = number(0, 255);
                return due(check, "by(" + a + ")", x.by(a), y.by(a));
            case 9: case 10:
                return due(check, "sit()", x.sit(), y.sit());
            case 11: case 12:
                a = number(0, 40);
                b = draw(3) == 0 ? number(0, 1) : number(10, 16);
                return due(check, "run(" + a + ", " + b + ")", x.run(a, b), y.run(a, b));
            case 13:
                a = number(0, 1);
                return due(check, "shortest(" + a + ")", x.shortest(a), y.shortest(a));
            case 14:
                a = number(0, draw(2) == 0 ? 999 : 60);
                return due(check, "fewest(" + a + ")", x.fewest(a), y.fewest(a));
            case 15:
                a = number(0, 6);
                b = number(0, 1);
                return due(check, "soonest(" + a + ", " + b + ")", x.soonest(a, b), y.soonest(a, b));
            case 16:
                a = number(0, 8);
                return due(check, "bribe(" + a + ")", x.bribe(a), y.bribe(a));
            case 17:
                a = number(0, 1);
                return due(check, "order(" + a + ")", x.order(a), y.order(a));
            case 18:
                a = number(0, 1);
                return due(check, "turned(" + a + ")", x.turned(a), y.turned(a));
            case 19: case 20: case 21: case 22:
                b = draw(3) == 0 ? number(0, 4) : 10 * number(1, 4) + number(0, 8);
                return due(check, "tells(" + a + ", " + b + ")", x.tells(a, b), y.tells(a, b));
            case 23:
                return due(check, "film(" + a + ")", x.film(a), y.film(a));
            case 24:
                a = draw(Integer.MAX_VALUE) * 2 + draw(2);
                return due(check, "drawn(" + a + ")", x.drawn(a), y.drawn(a));
            case 25:
                a = draw(5) == 0 ? Integer.MAX_VALUE - draw(9) : draw(Integer.MAX_VALUE) * 2 + draw(2);
                b = number(1, 20);
                c = number(0, 1);
                return due(check, "chance(" + a + ", " + b + ", " + c + ")", x.chance(a, b, c), y.chance(a, b, c));
            case 26:
                return draw(3) == 0 ? due(check, "image()", x.image(), y.image()) : due(check, "back()", x.back(), y.back());
            case 27:
                a = number(0, 5);
                return due(check, "count(" + a + ")", x.count(a), y.count(a));
            default:
                return callHost(check, x, y);
        }
    }

    private static String callHost(Check check, MinuteForTheUnread x, Model y) {
        int a = number(0, 3);
        int b = number(0, 2);
        int c;
        int d;
        switch (draw(6)) {
            case 0:
                b = number(-1, 2);
                c = draw(3) == 0 ? 1 : draw(2) == 0 ? number(0, 40) : number(6, 12);
                return due(check, "sheet(" + a + ", " + b + ", " + c + ")", x.sheet(a, b, c), y.sheet(a, b, c));
            case 1: case 2:
                b = draw(2) == 0 ? 0 : number(0, draw(3) == 0 ? 39 : 9);
                c = cellValue();
                return due(check, "cell(" + a + ", " + b + ", " + c + ")", x.cell(a, b, c), y.cell(a, b, c));
            case 3:
                c = number(0, 6);
                d = number(0, 6);
                int n = number(0, 6);
                return due(check, "copy(" + a + ", " + c + ", " + b + ", " + d + ", " + n + ")",
                    x.copy(a, c, b, d, n), y.copy(a, c, b, d, n));
            case 4:
                c = number(0, 9);
                d = draw(2) == 0 ? number(0, 8) : number(1, 3);
                return due(check, "citizens(" + a + ", " + b + ", " + c + ", " + d + ")",
                    x.citizens(a, b, c, d), y.citizens(a, b, c, d));
            default:
                a = number(0, 8);
                b = number(0, 5);
                return due(check, "taken(" + a + ", " + b + ")", x.taken(a, b), y.taken(a, b));
        }
    }

    private static String due(Check check, String call, long got, long want) {
        check.due(call, got, want);
        return call + " -> " + want;
    }

    private static int feedText(Check check, MinuteForTheUnread x, Model y, String text) {
        for (int i = 0; i < text.length(); i++) {
            check.due("feed(" + (int) text.charAt(i) + ")", x.feed(text.charAt(i)), y.feed(text.charAt(i)));
        }
        int got = x.text();
        check.due("text() of <" + text + ">", got, y.text());
        return text.length() + 1;
    }

    private static void run(Check check, int run) {
        seed = 1000003L * run + 17;
        check.about("drawn run " + run);
        MinuteForTheUnread x = new MinuteForTheUnread();
        Model y = new Model();
        int textsLeft = draw(4);
        int ready = draw(3) * 40;
        StringBuilder calls = new StringBuilder();
        for (int done = 0; done + 162 < CALLS; done++) {
            if (textsLeft > 0 && done >= ready) {
                textsLeft--;
                ready += 30;
                done += feedText(check, x, y, text());
                check.due("force(1)", x.force(1), y.force(1));
                continue;
            }
            calls.append(call(check, x, y)).append('\n');
            if (!check.isRight()) {
                System.out.println(calls);
                return;
            }
        }
    }

    /** The host's calls alone, on SHEETS that are all there at first; all who come by them are looked at, and go. */
    private static void host(Check check, int run) {
        seed = 7919L * run + 3;
        check.about("drawn host's run " + run);
        MinuteForTheUnread x = new MinuteForTheUnread();
        Model y = new Model();
        due(check, "image()", x.image(), y.image());
        int sort = draw(3);
        for (int sheet = 0; sheet < 4; sheet++) {
            int n = 4 + draw(9);
            due(check, "sheet(" + sheet + ", " + sort + ", " + n + ")", x.sheet(sheet, sort, n), y.sheet(sheet, sort, n));
        }
        for (int done = 0; done < 20; done++) {
            for (int i = 0; i < 8; i++) {
                callHost(check, x, y);
            }
            for (int i = 0; i < y.count(0); i++) {
                check.due("told(" + i + ", 2)", x.told(i, 2), y.told(i, 2));
                check.due("told(" + i + ", 4)", x.told(i, 4), y.told(i, 4));
            }
            due(check, "back()", x.back(), y.back());
        }
    }

    /** Texts alone, in great number, each on a new object: numbers and FAULTS. */
    private static void texts(Check check) {
        check.about("drawn texts");
        seed = 99;
        for (int i = 0; i < 20000; i++) {
            feedText(check, new MinuteForTheUnread(), new Model(), text());
        }
    }

    /** Bytes of all sorts till THE TAPE is full and further, then texts till no more have room. */
    private static void tapes(Check check) {
        check.about("drawn tapes");
        for (int i = 0; i < 200; i++) {
            seed = i;
            MinuteForTheUnread x = new MinuteForTheUnread();
            Model y = new Model();
            for (int fed = 0; fed < 170; fed++) {
                int letter = number(0, 255);
                check.due("feed(" + letter + ")", x.feed(letter), y.feed(letter));
            }
            check.due("text()", x.text(), y.text());
            for (int t = 0; t < 6; t++) {
                String text = "reads " + expression(0) + ";stills " + expression(0) + ";names " + expression(0) + ";";
                feedText(check, x, y, text);
                check.due("count(4)", x.count(4), y.count(4));
            }
        }
    }

    public static void main(String[] args) {
        Check check = new Check();
        texts(check);
        tapes(check);
        for (int run = 0; run < RUNS && check.isRight(); run++) {
            run(check, run);
            host(check, run);
        }
        check.close("ModelTest");
    }
}
