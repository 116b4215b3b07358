/**
 * Part 1 of the Terms and promises 1 to 4: each sentence on the tape, the tokens, the language and
 * its faults that names a bound, by the last input that is taken and the first that is not.
 */
public final class TextBoundaryTest extends Checks {
    private static final String EIGHT = "head 1 1 1;".repeat(8);
    private static final int BLANKS = 0x20202020;

    public static void main(String[] args) {
        newObject();
        tapeOf700();
        feedHighestFirst();
        cabinetOfSoManyBytes();
        cabinetRefused();
        cabinetAnew();
        faultOfTheLatest();
        anyFirstByte();
        anyByteBehindALine();
        anyByteBetweenParts();
        anyByteAsPart();
        longestRows();
        digits();
        headNumbers();
        ninthHead();
        heatNumbers();
        heatByDay();
        linesAndSemicolons();
        tests();
        exprsWithinOthers();
        sevenNots();
        valuesOfARule();
        secondLines();
        firstAlongTheText();
        leastOfOneToken();
        tooSoon();
        textBehindText();
        end("text boundaries");
    }

    private static String sign(int code) {
        return String.valueOf((char) code);
    }

    private static boolean isBlank(int code) {
        return code == 32 || code == 10;
    }

    private static boolean isDigit(int code) {
        return code >= '0' && code <= '9';
    }

    private static boolean isLetter(int code) {
        return code >= 'a' && code <= 'z';
    }

    /** "No HEADS." */
    private static void newObject() {
        AlmondCabinet x = new AlmondCabinet();
        due("1: no heads", x.count(0), 0);
        due("1: nothing on the tape", x.count(8), 0);
        due("1: no fault", x.fault(), AlmondCabinet.NONE);
        due("1: heat is 4 without", x.count(2), 4);
        noElement("1: head 0", () -> x.head(0, 0));
        noElement("1: seat 0", () -> x.seat(0));
        due("1: an empty tape is a cabinet", x.cabinet(0), 0);
        badArgument("1: but has no byte", () -> x.cabinet(1));
    }

    /** "NONE, and none come, if it would have more than 700." */
    private static void tapeOf700() {
        String full = "head 1 0 1;" + " ".repeat(678) + "head 2 0 2;";
        due("2: the text is full", full.length(), 700);
        AlmondCabinet x = new AlmondCabinet();
        due("2: 700 bytes come", feedText(x, full), 700);
        due("2: no 720", feedText(x, "xxxxxxxxxxxxxxxxxxxx"), AlmondCabinet.NONE);
        due("2: again none", x.feed(0, 0, 0, 0, 0), AlmondCabinet.NONE);
        due("2: none came", x.count(8), 700);
        for (int what = STATUS_TEXTS; what <= STATUS_SEEN; what++) {
            due("2: no STATUS " + what, x.count(what), 0);
        }
        badArgument("3: no 701", () -> x.cabinet(701));
        due("3: all 700 are read", x.cabinet(700), 0);
        due("3: its last line, too", x.head(1, 0), 2);
        due("2: from the start again", x.feed(BLANKS, BLANKS, BLANKS, BLANKS, BLANKS), 20);
        leavesAll("2: a refused feed", () -> {
            AlmondCabinet y = of(FOUR, 3);
            feedText(y, full);
            return y;
        }, NO_STATUS, y -> y.feed(1, 2, 3, 4, 5));
        fault(" ".repeat(699) + "x", 1, 699);
        fault(" ".repeat(696) + "head", 1, 700);
        String sum = "head 99 0 0;melts(" + "1+".repeat(337) + "1)=338;";
        due("3: a sum that fills the tape", sum.length(), 699);
        due("8: is worked out to its end", of(sum).then(0, 1, 0), 98);
        fault(sum.substring(0, 698), 1, 698);
    }

    /** "of each number the highest first: how many it has" */
    private static void feedHighestFirst() {
        AlmondCabinet x = new AlmondCabinet();
        due("2: twenty", x.feed(0x68656164, 0x20393820, 0x37203536, 0x3b686561, 0x64203433), 20);
        due("2: twenty more", x.feed(0x20322031, 0x3b202020, BLANKS, BLANKS, BLANKS), 40);
        due("2: in their order", x.cabinet(25), 0);
        due("2: sugar 98", x.head(0, 0), 98);
        due("2: almond 7", x.head(0, 1), 7);
        due("2: opinions 56", x.head(0, 6), 56);
        due("2: the second one's sugar 43", x.head(1, 0), 43);
    }

    /** "The tape's first n bytes (it is empty then) are a CABINET"; "the tape has not so many, n below 0" */
    private static void cabinetOfSoManyBytes() {
        AlmondCabinet x = new AlmondCabinet();
        feedText(x, "head 1 0 1;head 2 0 2;head 3");
        due("3: bytes of the tape", x.count(8), 40);
        badArgument("3: one too many", () -> x.cabinet(41));
        badArgument("3: below 0", () -> x.cabinet(-1));
        badArgument("3: far below 0", () -> x.cabinet(FEW));
        badArgument("3: far too many", () -> x.cabinet(MANY));
        due("3: the tape is as it was", x.count(8), 40);
        due("3: one line of it", x.cabinet(11), 0);
        due("3: one head", x.count(0), 1);
        due("3: empty then", x.count(8), 0);
        badArgument("3: what was behind is gone", () -> x.cabinet(1));
        feedText(x, "head 1 0 1;head 2 0 2;head 3");
        due("3: nothing of it", x.cabinet(0), 0);
        due("3: no head", x.count(0), 0);
        due("3: empty then, too", x.count(8), 0);
        feedText(x, "head 1 0 1;");
        due("3: all of it, blanks and all", x.cabinet(20), 0);
        feedText(x, "head 1 0 1;head 2 0 2;");
        due("3: one byte too few for the second", x.cabinet(21), 1);
        due("3: empty behind a fault", x.count(8), 0);
    }

    /** "(nothing changes)"; "or the FAULT (all stays, but STATUS)" */
    private static void cabinetRefused() {
        for (int n : new int[] {-1, 21, FEW, MANY}) {
            leavesAll("3: cabinet(" + n + ")", Checks::busy, NO_STATUS, x -> x.cabinet(n));
        }
        AlmondCabinet x = of(FOUR, 2);
        x.see(1, 1, true);
        x.image();
        x.days(1);
        feedText(x, "heat 9;melts 9;leans 3;marbled 9 9 9 9;head 1 1 1;head 2 2 2;head 3 3 3;head 4 4 4;x");
        due("3: a fault behind many lines", x.cabinet(84), 1);
        due("3: STATUS", x.count(STATUS_TEXTS), 1);
        int[] counts = {4, 3, 3, 7, 6, 79, 2, 1, 0, 1, 0, 0};
        for (int what = 0; what < counts.length; what++) {
            due("3: stays, count(" + what + ")", x.count(what), counts[what]);
        }
        due("3: almond stays", x.head(0, 1), 2);
        due("3: marbled stays", x.head(1, 5), 1);
        due("3: no rule has come", x.then(0, 1, 0), 20);
        due("3: heat stays", x.hottest(2), 1);
        due("3: the image stays", x.restore(), true);
        due("3: with its day", x.count(1), 2);
        due("3: with its STATUS", x.count(STATUS_TEXTS), 0);
    }

    /** "all anew"; "ACTS, what is SEEN, the image are gone"; "at first in SEATS 0, 1 .. by their numbers" */
    private static void cabinetAnew() {
        AlmondCabinet x = busy();
        feedText(x, "head 7 1 2;marbled 8 3 4 5;");
        due("3: behind what is on the tape", x.cabinet(11), 0);
        due("3: that was one head", x.count(0), 1);
        feedText(x, "head 7 1 2;marbled 8 3 4 5;");
        due("3: read", x.cabinet(27), 0);
        int[] counts = {2, 0, 4, 3, 0, 15, 0, 0, 0, 1, 1, 1};
        for (int what = 0; what < counts.length; what++) {
            due("3: anew, count(" + what + ")", x.count(what), counts[what]);
        }
        int[] first = {7, 1, 0, 0, 1, 0, 2};
        int[] second = {8, 3, 0, 1, 1, 1, 4};
        for (int what = 0; what <= 6; what++) {
            due("3: anew, head(0, " + what + ")", x.head(0, what), first[what]);
            due("3: anew, head(1, " + what + ")", x.head(1, what), second[what]);
        }
        due("3: seat 0", x.seat(0), 0);
        due("3: seat 1", x.seat(1), 1);
        due("3: nothing to undo", x.undo(), AlmondCabinet.NONE);
        due("3: no image", x.restore(), false);
        due("3: all eight can be seen again", x.see(0, 0, true), 1);
    }

    /** "The place of the latest cabinet()'s FAULT; NONE without." */
    private static void faultOfTheLatest() {
        AlmondCabinet x = new AlmondCabinet();
        feedText(x, "head 1 0 x");
        x.cabinet(10);
        due("4: its place", x.fault(), 9);
        due("4: asked again", x.fault(), 9);
        badArgument("4: refused", () -> x.cabinet(1));
        due("4: of the one that was read", x.fault(), 9);
        feedText(x, "x");
        x.cabinet(1);
        due("4: of the latest", x.fault(), 0);
        x.cabinet(0);
        due("4: none again", x.fault(), AlmondCabinet.NONE);
    }

    /** "blanks (32, 10) between them count for nothing"; "1 a TOKEN that can't stand there, or is none" */
    private static void anyFirstByte() {
        for (int code = 0; code < 256; code++) {
            if (isBlank(code)) {
                sound(sign(code));
                sound(sign(code) + "head" + sign(code) + "1" + sign(code) + "2 3" + sign(code) + ";" + sign(code));
            } else {
                fault(sign(code), 1, 0);
                fault(" \n" + sign(code) + "head 1 1 1;", 1, 2);
            }
        }
    }

    private static void anyByteBehindALine() {
        for (int code = 0; code < 256; code++) {
            String text = "head 5 0 1" + sign(code);
            if (code == ';') {
                sound(text);
            } else if (isBlank(code) || isDigit(code)) {
                fault(text, 1, 11);
            } else {
                fault(text, 1, 10);
            }
        }
    }

    /** "signs ; ( ) + - * / < =": between two parts six of them, digits, and nothing else. */
    private static void anyByteBetweenParts() {
        for (int code = 0; code < 256; code++) {
            String text = "melts 1" + sign(code) + "1;";
            if ("+-*/<=".indexOf(code) >= 0 || isDigit(code)) {
                sound(text);
            } else if (isBlank(code) || code == ';') {
                fault(text, 1, 8);
            } else {
                fault(text, 1, 7);
            }
        }
    }

    /** "PART: NUMBER | VALUE | '(' EXPR ')'"; "3 any word where a PART must stand that is no VALUE" */
    private static void anyByteAsPart() {
        for (int code = 0; code < 256; code++) {
            String text = "leans 1+" + sign(code) + ";";
            if (isDigit(code)) {
                sound(text);
            } else if (isLetter(code)) {
                fault(text, 3, 8);
            } else if (isBlank(code) || code == '(') {
                fault(text, 1, 9);
            } else {
                fault(text, 1, 8);
            }
        }
    }

    /** "words (a .. z, the longest row)" */
    private static void longestRows() {
        sound("head1 1 1;");
        sound("melts 1or 1;");
        sound("melts 1or1and1;");
        sound("melts not1;");
        sound("melts(1)and(1);");
        sound("leans sugar+almond;");
        fault("headhead 1 1 1;", 1, 0);
        fault("heads 1 1 1;", 1, 0);
        fault("hea 1 1 1;", 1, 0);
        fault("he ad 1 1 1;", 1, 0);
        fault("heat1;heats 1;", 1, 6);
        fault("melts notsugar;", 3, 6);
        fault("melts not sugars;", 3, 10);
        fault("melts not suga;", 3, 10);
        fault("melts 1andnot 1;", 1, 7);
        fault("melts 1 orr 1;", 1, 8);
        fault("melts 1 o 1;", 1, 8);
        fault("meltsheat;", 1, 0);
        fault("melts `sugar;", 1, 6);
        fault("melts sugar{;", 1, 11);
        fault("melts Sugar;", 1, 6);
        fault("melts sugaR;", 3, 6);
    }

    /** "NUMBERS (1 to 4 digits)"; "2 .. a NUMBER of 5 digits or more" */
    private static void digits() {
        sound("melts 0;");
        sound("melts 9999;");
        sound("melts 0000;");
        fault("melts 10000;", 2, 6);
        fault("melts 00000;", 2, 6);
        fault("melts 1+00001*2;", 2, 8);
        fault("melts " + "9".repeat(690) + ";", 2, 6);
        fault("melts " + "1".repeat(694), 2, 6);
        sound("head 0099 0009 0063;");
        sound("heat 0000 0009;");
        fault("head 00099 9 63;", 2, 5);
        fault("head 99 00009 63;", 2, 8);
        fault("head 99 9 00063;", 2, 10);
        fault("marbled 99 9 0 00063;", 2, 15);
        fault("heat 00000;", 2, 5);
        fault("heat 1 00000;", 2, 7);
        fault("head 4294967297 1 1;", 2, 5);
        sound("melts 1/2;");
        fault("melts 1:2;", 1, 7);
        fault("melts 1.2;", 1, 7);
    }

    /** "SUGAR (1 to 99), ALMOND (0 to 9), OPINIONS (bits of QUESTIONS 0 to 5 ..)"; "(OPINIONS to 63)" */
    private static void headNumbers() {
        for (String kind : new String[] {"head ", "marbled "}) {
            String last = kind.equals("head ") ? ";" : " 0;";
            int at = kind.length();
            sound(kind + "1 0 0" + last);
            sound(kind + "99 9 63" + last);
            fault(kind + "0 0 0" + last, 2, at);
            fault(kind + "100 0 0" + last, 2, at);
            fault(kind + "9999 0 0" + last, 2, at);
            fault(kind + "1 10 0" + last, 2, at + 2);
            fault(kind + "1 9999 0" + last, 2, at + 2);
            fault(kind + "1 0 64" + last, 2, at + 4);
            fault(kind + "1 0 9999" + last, 2, at + 4);
        }
        sound("marbled 1 0 0 63;");
        fault("marbled 1 0 63 64;", 2, 15);
        fault("head;", 1, 4);
        fault("head 1;", 1, 6);
        fault("head 1 0;", 1, 8);
        fault("head 1 0 0 0;", 1, 11);
        fault("marbled 1 0 0;", 1, 13);
        fault("marbled 1 0 0 0 0;", 1, 16);
        fault("head sugar 0 0;", 1, 5);
        fault("head (1) 0 0;", 1, 5);
        AlmondCabinet x = of("head 1 0 63;head 99 9 0;marbled 1 9 63 0;");
        int[] one = {1, 0, 0, 0, 1, 0, 63};
        int[] two = {99, 9, 0, 1, 1, 0, 0};
        int[] three = {1, 9, 0, 2, 1, 1, 63};
        for (int what = 0; what <= 6; what++) {
            due("6: least sugar, all questions " + what, x.head(0, what), one[what]);
            due("6: most sugar, no question " + what, x.head(1, what), two[what]);
            due("6: marbled " + what, x.head(2, what), three[what]);
        }
    }

    /** "HEADS 0, 1 .. (at most 8)"; "2 .. the first TOKEN of the 9th HEAD" */
    private static void ninthHead() {
        sound("head 1 1 1;".repeat(7));
        sound(EIGHT);
        sound("marbled 1 1 1 1;".repeat(8));
        sound(EIGHT + "heat 1;melts 1;leans 1;");
        fault(EIGHT + "head 1 1 1;", 2, 88);
        fault(EIGHT + "head", 2, 88);
        fault(EIGHT + "head x", 2, 88);
        fault(EIGHT + "head 100 1 1;", 2, 88);
        fault(EIGHT + "marbled 1 1 1 1;", 2, 88);
        fault(EIGHT + "heat 1;\n marbled", 2, 97);
        fault(EIGHT + "heads", 1, 88);
        fault(EIGHT + ";", 1, 88);
        due("5: eight", of(EIGHT).count(0), 8);
        due("7: the eighth's seat", of(EIGHT).seat(7), 7);
        due("5: none", of("heat 1;").count(0), 0);
    }

    /** "HEAT (1 to 8 numbers, 0 to 9 each)"; "2 .. the 9th number of HEAT" */
    private static void heatNumbers() {
        sound("heat 0;");
        sound("heat 9;");
        sound("heat 0 1 2 3 4 5 6 7;");
        sound("heat 9 9 9 9 9 9 9 9;");
        sound("heat 0 0 0 0 0 0 0 0;");
        due("5: 0 behind another one", of("heat 5 0;", 1).count(2), 0);
        fault("heat 10;", 2, 5);
        fault("heat 1 10;", 2, 7);
        fault("heat 1 1 1 1 1 1 1 10;", 2, 19);
        fault("heat;", 1, 4);
        fault("heat", 1, 4);
        fault("heat x;", 1, 5);
        fault("heat 1 1 1 1 1 1 1 1 1;", 2, 21);
        fault("heat 1 1 1 1 1 1 1 1 10000;", 2, 21);
        fault("heat 1 1 1 1 1 1 1 1 x;", 1, 21);
        fault("heat 1 1 1 1 1 1 1 1", 1, 20);
        fault("heat 1+1;", 1, 6);
    }

    /** "that of DAY d is the (d MOD how many)-th; 4 without" */
    private static void heatByDay() {
        for (int many = 1; many <= 8; many++) {
            String text = "heat 9 8 7 6 5 4 3 2".substring(0, 5 + 2 * many - 1) + ";";
            AlmondCabinet x = of(text);
            for (int day = 0; day <= 3 * many; day++) {
                due("5: heat of day " + day + " of " + text, x.count(2), 9 - day % many);
                x.days(1);
            }
        }
        AlmondCabinet late = of("heat 9 8 7 6 5 4 3 2;", 999);
        due("5: heat of day 999", late.count(2), 9 - 999 % 8);
        due("5: heat without", of("head 1 1 1;").count(2), 4);
        due("5: heat without, later", of("head 1 1 1;", 999).count(2), 4);
        due("5: heat 0 is not without", of("heat 0;").count(2), 0);
    }

    /** "CABINET: LINE*. LINE: ( .. ) ';'" */
    private static void linesAndSemicolons() {
        sound("");
        sound("heat 1;");
        fault("heat 1;;", 1, 7);
        fault("heat 1 head 1 1 1;", 1, 7);
        fault("melts 1 leans 1;", 1, 8);
        fault("melts;", 1, 5);
        fault("leans ;", 1, 6);
        fault("melts 1;1;", 1, 8);
        fault("melts 1);", 1, 7);
        fault("melts (1;", 1, 8);
        fault("melts (1));", 1, 9);
        fault("melts ();", 1, 7);
        fault("sugar 1;", 1, 0);
        fault("not;", 1, 0);
    }

    /** "NOT: 'not' NOT | SUM [('<' | '=') SUM]": one test at most, and no sign ahead. */
    private static void tests() {
        sound("melts 1<2;");
        sound("melts (1<2)=(3<4);");
        fault("melts 1<2<3;", 1, 9);
        fault("melts 1<2=3;", 1, 9);
        fault("melts 1=2=3;", 1, 9);
        fault("melts 1<=2;", 1, 8);
        fault("melts <2;", 1, 6);
        fault("melts -1;", 1, 6);
        fault("melts 1--1;", 1, 8);
        fault("melts 1*;", 1, 8);
        fault("melts 1+not 1;", 3, 8);
        fault("melts 1<not 1;", 3, 8);
        fault("melts 1*not 1;", 3, 8);
        sound("melts 1 or not 1;");
        sound("melts 1 and not 1;");
        sound("melts 1+(not 1);");
    }

    /** "2 .. the first TOKEN .. of an EXPR within 6 others (a NUMBER, any word, a parenthesis)" */
    private static void exprsWithinOthers() {
        sound("melts (((((1)))));");
        sound("melts 1+(((((1)))))*(((((1)))));");
        sound("melts (1)+(1)+(1)+(1)+(1)+(1)+(1)+(1);");
        sound("melts (((((not not sugar<1)))));");
        for (String first : new String[] {"1", "9999", "10000", "sugar", "left", "not", "or", "and", "x", "head", "("}) {
            fault("melts ((((((" + first, 2, 12);
            fault("melts ((((((" + first + "))))));", 2, 12);
            fault("leans not 1<((((( \n(" + first + " ", 2, 20);
        }
        for (String first : new String[] {")", "+", "-", "*", "/", "<", "=", ";", "X", "\t"}) {
            fault("melts ((((((" + first, 1, 12);
        }
        fault("melts ((((((", 1, 12);
        fault("melts (((((((((((((", 2, 12);
        fault("melts (((((1)))))+((((((1))))));", 2, 24);
        fault("melts (((((1+(1))))));", 2, 14);
        fault("melts (((((sugar<(1))))));", 2, 18);
        fault("melts (((((x)))));", 3, 11);
    }

    /** "2 .. the seventh 'not' side by side" */
    private static void sevenNots() {
        String six = "not not not not not not ";
        sound("melts " + six + "1;");
        sound("melts " + six + "1 and " + six + "1 or " + six + "1;");
        sound("melts " + six + "(" + six + "1);");
        sound("leans not(not(not(not(not(" + six + "right)))));");
        fault("melts " + six + "not 1;", 2, 30);
        fault("melts " + six + "not", 2, 30);
        fault("melts " + six + six + "1;", 2, 30);
        fault("melts 1 or " + six + "not 1;", 2, 35);
        fault("melts (" + six + "not 1);", 2, 31);
        fault("melts " + six + "nots;", 3, 30);
        fault("melts " + six + "or;", 3, 30);
        fault("melts " + six + ";", 1, 30);
        fault("melts " + six, 1, 30);
    }

    /** "VALUES of a HEAD: .. of LEANS also 'left', 'right'"; "3 .. no VALUE of this EXPR" */
    private static void valuesOfARule() {
        for (String value : new String[] {"sugar", "almond", "heat", "lean", "day"}) {
            sound("melts " + value + ";leans " + value + ";");
        }
        for (String value : new String[] {"left", "right"}) {
            sound("leans " + value + ";");
            fault("melts " + value + ";", 3, 6);
            fault("melts 1<(1+" + value + ");", 3, 11);
            fault("leans 1;melts " + value + ";", 3, 14);
            sound("melts 1;leans " + value + ";");
        }
        for (String word : new String[] {"head", "marbled", "melts", "leans", "seat", "or", "and", "days", "x"}) {
            fault("leans " + word + ";", 3, 6);
            fault("leans not " + word + ";", 3, 10);
            fault("leans (" + word + ");", 3, 7);
            fault("leans 1 " + (word.equals("or") || word.equals("and") ? "sugar" : word) + ";", 1, 8);
        }
    }

    /** "5 a second 'heat', 'melts', 'leans'" */
    private static void secondLines() {
        sound("heat 1;melts 1;leans 1;");
        sound("leans heat;heat 1;melts heat+lean;");
        fault("heat 1;heat 1;", 5, 7);
        fault("heat 1;head 1 1 1;heat", 5, 18);
        fault("melts 1;melts 1;", 5, 8);
        fault("melts 1;leans 1;melts x", 5, 16);
        fault("leans 1;leans 1;", 5, 8);
        fault("leans 1;melts 1;heat 1;leans;", 5, 23);
    }

    /** "FAULTS, the first along the text" */
    private static void firstAlongTheText() {
        fault("head 0 0 x;", 2, 5);
        fault("head 1 x 64;", 1, 7);
        fault("heat 10;heat 1;", 2, 5);
        fault("heat 1;heat 10;", 5, 7);
        fault("melts x+10000;", 3, 6);
        fault("melts 10000+x;", 2, 6);
        fault("melts x;;", 3, 6);
        fault("melts ;x;", 1, 6);
        fault(EIGHT + "heat 1;heat 1;head 1 1 1;", 5, 95);
        fault(EIGHT + "heat 1;head 1 1 1;heat 1;", 2, 95);
        fault("melts 1;leans 1;x;melts 1;", 1, 16);
    }

    /** "of one TOKEN the least": who can't stand is 1, however much it is; too much is 2 ahead of 3. */
    private static void leastOfOneToken() {
        fault("10000 head;", 1, 0);
        fault("head 1 1 1 10000;", 1, 11);
        fault("melts 1 10000;", 1, 8);
        fault("melts (1)10000;", 1, 9);
        fault("marbled 1 1 1 1 64;", 1, 16);
        fault("melts ((((((x))))));", 2, 12);
        fault("melts ((((((left))))));", 2, 12);
    }

    /** "(the text's length where it ends too soon)" */
    private static void tooSoon() {
        String[] pieces = {"marbled", " 12", " 3", " 45", " 6"};
        String text = "";
        for (String piece : pieces) {
            text += piece;
            fault(text, 1, text.length());
            fault(text + " \n ", 1, text.length() + 3);
        }
        sound(text + ";");
        String[] rule = {"melts", " not", " (", "sugar", "+", "1", ")", "<", "2", " and", " 3", " or", " 4", "*", "5"};
        text = "heat 1;";
        for (String piece : rule) {
            text += piece;
            fault(text, 1, text.length());
            fault(text + "\n", 1, text.length() + 1);
        }
        sound(text + ";");
        AlmondCabinet x = new AlmondCabinet();
        feedText(x, "head 1 1 1;");
        due("3: what is behind n doesn't count", x.cabinet(10), 1);
        due("4: n is the text's length", x.fault(), 10);
        feedText(x, "head 1 1 12;");
        due("3: a number is cut by n", x.cabinet(10), 1);
        due("4: n again", x.fault(), 10);
        feedText(x, "melts 1;leans");
        due("3: a word is cut by n", x.cabinet(12), 1);
        due("4: at its first byte", x.fault(), 8);
    }

    /** "all anew": what an earlier text told, sound or not, is neither a second line nor kept. */
    private static void textBehindText() {
        String rules = "head 99 0 0;heat 9;melts (" + "1+".repeat(140) + "1)/20;leans 0-2;";
        AlmondCabinet x = new AlmondCabinet();
        for (int k = 0; k < 6; k++) {
            feedText(x, rules);
            due("3: sound again", x.cabinet(rules.length()), 0);
            due("3: melts by its own rule", x.then(0, 1, 0), 92);
            due("3: leans by its own rule", x.then(0, 1, 1), -2);
            feedText(x, "heat 1;melts 1;leans 1;x");
            due("3: not sound", x.cabinet(24), 1);
            due("3: heat of the sound one", x.count(2), 9);
        }
        for (int k = 0; k < 2; k++) {
            feedText(x, "head 50 0 0;head 50 0 0;");
            due("3: without rules", x.cabinet(24), 0);
            due("3: heat without", x.count(2), 4);
            due("3: melts without", x.then(0, 1, 0), 46);
            due("3: leans without", x.then(0, 1, 1), 0);
        }
    }
}
