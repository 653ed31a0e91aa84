/** Promises 20 to 22: the text and what is read from it. */
public final class TextTest {
    private static final Check check = new Check();

    public static void main(String[] args) {
        append();
        clearText();
        parseWhatIsRight();
        parseWhatIsWrong();
        parseTwelve();
        parseBeginsAnew();
        parseThatFails();
        check.end();
    }

    private static void write(StandTugs x, String text) {
        x.clearText();
        for (int i = 0; i < text.length(); i++) {
            x.append(text.charAt(i));
        }
    }

    private static void append() {
        StandTugs x = new StandTugs();
        check.due("20: append(0)", x.append(0), 1);
        check.due("20: append(127)", x.append(127), 2);
        for (int value : new int[] {-1, 128, Integer.MAX_VALUE, Integer.MIN_VALUE}) {
            check.illegal(x, "20: append(" + value + ")", () -> x.append(value));
        }
        check.unfit(x, "20: not undoable", () -> x.undo());
        for (int i = 3; i <= 90; i++) {
            check.due("20: append('1')", x.append('1'), i);
        }
        check.unfit(x, "20: a 91st byte", () -> x.append('1'));
        check.illegal(x, "20: a 91st byte that is none", () -> x.append(128));
    }

    private static void clearText() {
        StandTugs x = new StandTugs();
        check.due("21: an empty text", x.clearText(), 0);
        write(x, "110,1");
        check.due("21: clearText()", x.clearText(), 5);
        check.due("21: clearText() again", x.clearText(), 0);
        check.due("21: the next byte", x.append('4'), 1);
        check.unfit(x, "21: not undoable", () -> x.undo());
        for (int i = 1; i < 90; i++) {
            x.append(';');
        }
        check.due("21: a full text", x.clearText(), 90);
        check.due("21: after a full text", x.append('4'), 1);
    }

    private static void right(String text, int... due) {
        StandTugs x = new StandTugs();
        write(x, text);
        check.due("22: parse() of " + text, x.parse(), due.length / 5);
        check.due("22: aircraft of " + text, x.value(2), due.length / 5);
        for (int i = 0; i < due.length && x.value(2) == due.length / 5; i++) {
            check.due("22: aircraft(" + i / 5 + ", " + i % 5 + ") of " + text, x.aircraft(i / 5, i % 5), due[i]);
            check.due("22: expected", x.aircraft(i / 5, 5), 0);
        }
    }

    private static void parseWhatIsRight() {
        right("");
        right("110,1;", 1, 1, 0, 1, 100);
        right("430,1;", 4, 3, 0, 1, 100);
        right("110000,0001p000;", 1, 1, 0, 1, 0);
        right("221998,1999p400;", 2, 2, 1998, 1999, 400);
        right("3107,0012p7;", 3, 1, 7, 12, 7);
        right("119,10p50;23100,200;110,1p099;", 1, 1, 9, 10, 50, 2, 3, 100, 200, 100, 1, 1, 0, 1, 99);
    }

    private static void wrong(String text, int position) {
        StandTugs x = new StandTugs();
        write(x, text);
        check.due("22: parse() of " + text, x.parse(), -10 - position);
    }

    private static void parseWhatIsWrong() {
        String[] texts = {"0", "5", "x", ";", "p", " ", ",", "-"};
        for (String text : texts) {
            wrong(text, 0);
            wrong("110,1;" + text, 6);
            wrong("1" + text.replace('0', '4'), 1);
            wrong("11" + text.replace('0', ';').replace('5', ';'), 2);
        }
        wrong("10", 1);
        wrong("14", 1);
        wrong("1", 1);
        wrong("11", 2);
        wrong("110", 3);
        wrong("110,", 4);
        wrong("110,1", 5);
        wrong("110,1p", 6);
        wrong("110,1p5", 7);
        wrong("110,1;1", 7);
        wrong("110;", 3);
        wrong("110p", 3);
        wrong("110,,", 4);
        wrong("110,;", 4);
        wrong("110,p", 4);
        wrong("110,1,", 5);
        wrong("110,1 ;", 5);
        wrong("110,1pp", 6);
        wrong("110,1p;", 6);
        wrong("110,1p5p", 7);
        wrong("110,1p5,", 7);
        wrong("110,1P5;", 5);
        wrong("1100000,1;", 6);
        wrong("110,00001;", 8);
        wrong("110,1p0050;", 9);
        wrong("110,1p4000", 9);
        wrong("112000,", 2);
        wrong("112000", 2);
        wrong("112000x", 2);
        wrong("119999;", 2);
        wrong("1120000", 6);
        wrong("111999,1999;", 7);
        wrong("111999,2000;", 7);
        wrong("110,2000;", 4);
        wrong("110,2000", 4);
        wrong("110,2000x", 4);
        wrong("110,20000", 8);
        wrong("110,0;", 4);
        wrong("110,0", 4);
        wrong("1112,12p5;", 5);
        wrong("1112,011x", 5);
        wrong("1112,1", 5);
        wrong("110,1p401;", 6);
        wrong("110,1p999", 6);
        wrong("110,1p401x", 6);
        wrong("110,1;110,1p401;", 12);
        wrong("110,1;112000,1;", 8);
        wrong("110/1;", 3);
        wrong("110:1;", 3);
        wrong("11/", 2);
        wrong("11:", 2);
    }

    private static void parseTwelve() {
        StringBuilder text = new StringBuilder();
        for (int i = 0; i < 12; i++) {
            text.append("110,1;");
        }
        StandTugs x = new StandTugs();
        write(x, text.toString());
        check.due("22: twelve", x.parse(), 12);
        check.unfit(x, "22: a 13th is not expected", () -> x.expect(11, 0, 1, 0));
        wrong(text + "1", 72);
        wrong(text + "110,1;", 72);
        wrong(text + "x", 72);
        wrong(text + ";", 72);
    }

    private static void parseBeginsAnew() {
        StandTugs x = new StandTugs();
        x.begin(4, 2);
        x.setSpan(1, 4);
        x.setStrength(1, 1);
        x.setCurfew(7, 9);
        x.expect(21, 0, 30, 60);
        x.expect(41, 0, 10, 60);
        x.expect(41, 1, 60, 60);
        x.pass(20);
        check.due("22: a tug is busy", x.tug(1, 1), 2);
        write(x, "330,50;110,60p1;");
        check.due("22: parse()", x.parse(), 2);
        int[] values = {4, 2, 2, 0, 7, 9, 2, 0, 0, 0, 0, 0, 0, 0, 0, 0};
        for (int what = 0; what < 16; what++) {
            check.due("22: value(" + what + ")", x.value(what), values[what]);
        }
        for (int i = 0; i < 4; i++) {
            check.due("22: span", x.stand(i, 0), i == 1 ? 4 : 2);
            check.due("22: free", x.stand(i, 1), StandTugs.NONE);
            check.due("22: no minutes", x.stand(i, 3), 0);
        }
        for (int i = 0; i < 2; i++) {
            int[] tug = {i == 0 ? 3 : 1, StandTugs.NONE, 0, 0, 0};
            for (int what = 0; what < 5; what++) {
                check.due("22: tug(" + i + ", " + what + ")", x.tug(i, what), tug[what]);
            }
        }
        check.outside(x, "22: the log is empty", () -> x.event(0, 0));
        check.due("22: the text stays", x.clearText(), 16);
        check.due("22: undo()", x.undo(), 3);
        check.due("22: the state before", x.value(3), 20);
        check.due("22: the tug before", x.tug(1, 1), 2);
        x.pass(1);
        check.due("22: the text of nobody", x.parse(), 0);
        check.due("22: nobody", x.value(2), 0);
        check.due("22: undo() of it", x.undo(), 3);
        check.due("22: the minute before", x.value(3), 21);
    }

    private static void parseThatFails() {
        StandTugs x = new StandTugs();
        x.expect(21, 0, 30, 60);
        x.pass(3);
        write(x, "330,50;110,60p1;110,1");
        long before = x.digest();
        check.due("22: a syntax error", x.parse(), -31);
        check.due("22: then nothing changes", x.digest(), before);
        x.append(';');
        check.due("22: its end", x.parse(), 3);
    }
}
