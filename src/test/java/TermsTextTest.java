/** The document's term "Text" and what parse() answers to it, a sentence each; every label tells its sentence. */
public final class TermsTextTest {
    private static final Check check = new Check();

    /** A text that breaks off, and the bytes that can stand next; none of its numbers gets out of range by them. */
    private static final String[][] NEXT = {
        {"", "1234"},
        {"1", "123"},
        {"4", "123"},
        {"11", "0123456789"},
        {"110", "0123456789,"},
        {"1100", "0123456789,"},
        {"11000", "0123456789,"},
        {"110000", ","},
        {"111999", ","},
        {"110,", "123456789"}, // a 0 can stand too, but is not greater: the same position
        {"110,1", "0123456789p;"},
        {"110000,01", "0123456789p;"},
        {"110000,001", "0123456789p;"},
        {"110000,0001", "p;"},
        {"110,1999", "p;"},
        {"110,1p", "0123456789"},
        {"110,1p0", "0123456789;"},
        {"110,1p00", "0123456789;"},
        {"110,1p000", ";"},
        {"110,1p400", ";"},
        {"110,1;", "1234"},
        {"110,1p9;4", "123"},
        {"110,1p9;431999", ","},
    };

    public static void main(String[] args) {
        atMost90Bytes();
        textOf90Bytes();
        everyByteInEveryPlace();
        spansAndWeights();
        minutesOfOneToFourDigits();
        passengersOfOneToThreeDigits();
        hundredWithoutThem();
        zerosInFront();
        noSpaces();
        noAircraft();
        aDigitTooMany();
        aThirteenthAircraft();
        endsTooEarly();
        outOfRangeByWhateverFollows();
        leavesThatIsNotGreater();
        firstErrorOfSeveral();
        onlyTheTextItself();
        check.end();
    }

    private static int parsed(String text) {
        StandTugs x = new StandTugs();
        Scenes.write(x, text);
        return x.parse();
    }

    private static void wrong(String sentence, String text, int position) {
        check.due(sentence + ": " + text, parsed(text), -10 - position);
    }

    private static void right(String sentence, String text, int... due) {
        StandTugs x = new StandTugs();
        Scenes.write(x, text);
        check.due(sentence + ": " + text, x.parse(), due.length / 5);
        check.due(sentence + ", aircraft: " + text, x.value(2), due.length / 5);
        for (int i = 0; i < due.length && i / 5 < x.value(2); i++) {
            check.due(sentence + ", aircraft(" + i / 5 + ", " + i % 5 + "): " + text, x.aircraft(i / 5, i % 5), due[i]);
        }
    }

    private static void atMost90Bytes() {
        StandTugs x = new StandTugs();
        for (int length = 1; length <= 90; length++) {
            check.due("at most 90 bytes, " + length, x.append(length), length);
        }
        check.unfit(x, "at most 90 bytes, no 91st", () -> x.append(1));
        check.due("90 bytes still", x.clearText(), 90);
        check.due("empty", x.append(1), 1);
    }

    private static void textOf90Bytes() {
        String six = Scenes.repeated("110,1;", 6);
        String nine = Scenes.repeated("110000,1;", 6);
        check.due("90 bytes that are right", parsed(six + nine), 12);
        wrong("90 bytes that end too early", six + nine.substring(0, 53) + "9", 90);
        wrong("90 bytes that end with a number out of range", Scenes.repeated("110,1p00;", 9) + "111,1111p", 90);
        wrong("90 bytes that end with a number out of range", Scenes.repeated("110,1p00;", 9) + "111,2p401", 87);
        wrong("90 bytes that end with a minute that is not greater", Scenes.repeated("110,1p00;", 9) + "111111,11", 88);
        wrong("90 bytes that end too early", Scenes.repeated("110,1p00;", 9) + "111111,", 88);
        wrong("90 bytes, the last one cannot stand there", Scenes.repeated("110,1p00;", 9) + "111,2p40x", 89);
        wrong("90 digits", Scenes.repeated("1", 90), 6);
        wrong("90 semicolons", Scenes.repeated(";", 90), 0);
    }

    private static void everyByteInEveryPlace() {
        for (String[] one : NEXT) {
            for (char sign = 0; sign < 128; sign++) {
                String text = one[0] + sign;
                boolean canStand = one[1].indexOf(sign) >= 0;
                String label = canStand ? "can stand, ends too early" : "cannot stand where it stands";
                if (canStand && sign == ';') {
                    check.due("a whole aircraft: " + text, parsed(text), 1);
                } else {
                    wrong(label + " (" + (int) sign + ")", text, canStand ? text.length() : one[0].length());
                }
            }
            wrong("what follows does not matter", one[0] + "x110,1;", one[0].length());
        }
    }

    private static void spansAndWeights() {
        for (int span = 0; span <= 9; span++) {
            for (int weight = 0; weight <= 9; weight++) {
                String text = "" + span + weight + "0,1;";
                if (span < 1 || span > 4) {
                    wrong("a digit 1 to 4, its span", text, 0);
                } else if (weight < 1 || weight > 3) {
                    wrong("a digit 1 to 3, its weight", text, 1);
                } else {
                    right("span and weight", text, span, weight, 0, 1, 100);
                }
            }
        }
    }

    private static void minutesOfOneToFourDigits() {
        right("one digit each", "110,9;", 1, 1, 0, 9, 100);
        right("two digits each", "1110,99;", 1, 1, 10, 99, 100);
        right("three digits each", "11100,999;", 1, 1, 100, 999, 100);
        right("four digits each", "111000,1999;", 1, 1, 1000, 1999, 100);
        right("the least minutes", "110,1;", 1, 1, 0, 1, 100);
        right("the greatest minutes", "111998,1999;", 1, 1, 1998, 1999, 100);
        right("far apart", "110,1999p0;", 1, 1, 0, 1999, 0);
        wrong("no digit of the minute at which it comes", "11,1;", 2);
        wrong("no digit of the minute of leaving", "110,;", 4);
        wrong("no digit of the minute of leaving", "110,p1;", 4);
        wrong("2000 is out of range", "112000,", 2);
        wrong("2000 is out of range", "110,2000;", 4);
        wrong("9999 is out of range", "119999,", 2);
        wrong("9999 is out of range", "110,9999;", 4);
    }

    private static void passengersOfOneToThreeDigits() {
        right("one digit", "110,1p7;", 1, 1, 0, 1, 7);
        right("two digits", "110,1p77;", 1, 1, 0, 1, 77);
        right("three digits", "110,1p377;", 1, 1, 0, 1, 377);
        right("the fewest passengers", "110,1p0;", 1, 1, 0, 1, 0);
        right("the most passengers", "110,1p400;", 1, 1, 0, 1, 400);
        wrong("401 passengers", "110,1p401;", 6);
        wrong("999 passengers", "110,1p999;", 6);
        wrong("no digit of the passengers", "110,1p;", 6);
        wrong("passengers twice", "110,1p1p1;", 7);
    }

    private static void hundredWithoutThem() {
        right("100 without it", "110,1;", 1, 1, 0, 1, 100);
        right("100 without it, after another", "110,1p7;110,1;110,1p8;", 1, 1, 0, 1, 7, 1, 1, 0, 1, 100, 1, 1, 0, 1, 8);
    }

    private static void zerosInFront() {
        right("zeros in front", "110000,0001p000;", 1, 1, 0, 1, 0);
        right("zeros in front", "1100,01p00;", 1, 1, 0, 1, 0);
        right("zeros in front", "110009,0010p040;", 1, 1, 9, 10, 40);
        right("zeros in front are not of another base", "11010,011p010;", 1, 1, 10, 11, 10);
        wrong("zeros in front are digits", "1100009,10;", 6);
        wrong("zeros in front are digits", "119,00010;", 8);
        wrong("zeros in front are digits", "119,10p0040;", 10);
    }

    private static void noSpaces() {
        String text = "110,10p10;";
        for (int at = 0; at <= text.length(); at++) {
            for (String blank : new String[] {" ", "\t", "\n", "\r"}) {
                wrong("there are no spaces", text.substring(0, at) + blank + text.substring(at), at);
            }
        }
    }

    private static void noAircraft() {
        right("there may be no aircraft", "");
        StandTugs x = new StandTugs();
        x.expect(11, 0, 1, 0);
        check.due("there may be no aircraft, of a new text", x.parse(), 0);
        check.due("then there are none", x.value(2), 0);
        wrong("a semicolon is no aircraft", ";", 0);
        wrong("a semicolon is no aircraft", "110,1;;", 6);
    }

    private static void aDigitTooMany() {
        wrong("a digit too many of the minute at which it comes", "1100000", 6);
        wrong("a digit too many of the minute at which it comes", "1100000,1;", 6);
        wrong("a digit too many of one that is out of range", "1199999,1;", 6);
        wrong("a digit too many of the minute of leaving", "110,00001", 8);
        wrong("a digit too many of the minute of leaving", "110,00001;", 8);
        wrong("a digit too many of one that is out of range", "110,99999;", 8);
        wrong("a digit too many of one that is not greater", "119,00009;", 8);
        wrong("a digit too many of the passengers", "110,1p0000", 9);
        wrong("a digit too many of the passengers", "110,1p0000;", 9);
        wrong("a digit too many of passengers that are out of range", "110,1p9999;", 9);
    }

    private static void aThirteenthAircraft() {
        String twelve = Scenes.repeated("110,1;", 12);
        check.due("twelve", parsed(twelve), 12);
        check.due("eleven", parsed(twelve.substring(6)), 11);
        for (int sign = 0; sign < 128; sign++) {
            wrong("the first digit of a 13th aircraft, or whatever byte", twelve + (char) sign, 72);
        }
        wrong("a 13th aircraft, whole", twelve + "110,1;", 72);
        wrong("a 13th aircraft, with an error of its own", twelve + "112000,1;", 72);
        wrong("an error of the 12th", twelve.substring(6) + "110,0;", 70);
    }

    private static void endsTooEarly() {
        String text = "431998,1999p400;110000,0001p000;";
        for (int length = 0; length <= text.length(); length++) {
            String part = text.substring(0, length);
            boolean isWhole = length == 0 || part.charAt(length - 1) == ';';
            boolean isTooSmall = part.endsWith(",1") || part.endsWith(",19") || part.endsWith(",199")
                    || part.endsWith(",0") || part.endsWith(",00") || part.endsWith(",000");
            if (isWhole) {
                check.due("it ends: " + part, parsed(part), length / 16);
            } else if (isTooSmall) {
                wrong("not greater, as the end of the text follows", part, part.lastIndexOf(',') + 1);
            } else {
                wrong("the length of the text if it ends too early", part, length);
            }
        }
    }

    private static void outOfRangeByWhateverFollows() {
        String[][] texts = {{"11", "2000"}, {"11", "9999"}, {"110,", "2000"}, {"110,", "9999"}, {"110,1p", "401"},
            {"110,1p", "999"}, {"1110,", "10"}, {"1110,", "9"}, {"1110,", "0"}, {"1110,", "0010"}, {"111999,", "1999"},
            {"111999,", "2000"}, {"110,1;22", "2000"}, {"110,1p3;22500,", "499"}};
        for (String[] text : texts) {
            String whole = text[0] + text[1];
            wrong("the index of its first digit, found when the end of the text follows", whole, text[0].length());
            for (char sign = 0; sign < 128; sign++) {
                if (sign < '0' || sign > '9') {
                    wrong("found when a byte that is no digit, whichever it is (" + (int) sign + "), follows",
                            whole + sign, text[0].length());
                }
            }
        }
        wrong("not as long as a digit follows: in range", "11200", 5);
        check.due("not as long as a digit follows: 10 to 105", parsed("1110,105;"), 1);
        wrong("not as long as a digit follows: a digit too many", "1120000", 6);
    }

    private static void leavesThatIsNotGreater() {
        for (int comes : new int[] {0, 1, 9, 10, 99, 100, 999, 1000, 1998}) {
            int at = 3 + ("" + comes).length();
            wrong("leaves as it comes", "11" + comes + "," + comes + ";", at);
            if (comes > 0) {
                wrong("leaves a minute before it comes", "11" + comes + "," + (comes - 1) + ";", at);
            }
            wrong("leaves at 0", "11" + comes + ",0;", at);
            right("leaves a minute after it comes", "11" + comes + "," + (comes + 1) + "p1;", 1, 1, comes, comes + 1, 1);
        }
        wrong("nothing is greater than 1999", "111999,1999;", 7);
        wrong("nothing is greater than 1999", "111999,2000;", 7);
        wrong("each is looked at by its own minute", "110,1;115,5;", 10);
        right("each is looked at by its own minute", "11900,901p1;110,1p1;", 1, 1, 900, 901, 1, 1, 1, 0, 1, 1);
    }

    private static void firstErrorOfSeveral() {
        wrong("the first error", "510,1;", 0);
        wrong("the first error", "54", 0);
        wrong("the first error", "192000,1;", 1);
        wrong("the first error", "112000,2000;", 2);
        wrong("the first error", "110,0p401;", 4);
        wrong("the first error", "110,2000p", 4);
        wrong("the first error, in the second aircraft", "110,1;110,0;510,1;", 10);
    }

    private static void onlyTheTextItself() {
        StandTugs x = new StandTugs();
        Scenes.write(x, "110,1;220,2p9;");
        check.due("two", x.parse(), 2);
        Scenes.write(x, "110,1");
        check.due("what has been cleared does not count, the end", x.parse(), -15);
        Scenes.write(x, "1");
        check.due("what has been cleared does not count, a digit", x.parse(), -11);
        Scenes.write(x, "330,3;");
        check.due("what has been parsed does not count", x.parse(), 1);
        check.due("its span", x.aircraft(0, 0), 3);
        check.due("its passengers", x.aircraft(0, 4), 100);
        check.due("again", x.parse(), 1);
        check.due("only one", x.value(2), 1);
    }
}
