/**
 * Part 2 of the Terms and promises 8 to 14: each sentence on what a day, an opinion, a vote and an
 * act may be at the most and at the least, and on what is refused.
 */
public final class DayBoundaryTest extends Checks {
    public static void main(String[] args) {
        dividing();
        wrapping();
        truths();
        meltsKept();
        meltsWithoutARule();
        sugarNotBelowNone();
        leansKept();
        leansWithoutARule();
        nextOnes();
        leanToNine();
        knockedToTheRight();
        knockedToTheLeft();
        knockedOverTheFallen();
        seatBySeat();
        fallenStayAsTheyAre();
        marbledOpinions();
        followingTheNext();
        moreForThanAgainst();
        daysOneToTwenty();
        dayOf999();
        propped();
        castOneToFifty();
        lickedOneToNine();
        turnedQuestions();
        changedSeats();
        refusedActs();
        fortyActs();
        undone();
        end("day boundaries");
    }

    /** What MELTS gives by this EXPR, kept to 0 to 20. */
    private static int melts(String expr) {
        return 99 - of("head 99 3 0;leans 0;melts " + expr + ";").then(0, 1, 0);
    }

    /** What LEANS gives by this EXPR, kept to -3 to 3. */
    private static int leans(String expr) {
        return of("head 99 3 0;melts 0;leans " + expr + ";").then(0, 1, 1);
    }

    // ---- the language

    /** "/ cut down to 0, by 0 gives 0"; "From the left" */
    private static void dividing() {
        due("8: 7/0", melts("7/0"), 0);
        due("8: 0/0", melts("0/0"), 0);
        due("8: by 0 once", melts("5+7/0"), 5);
        due("8: by 0 and on", melts("7/0+5"), 5);
        due("8: by what is worth 0", melts("3+7/(4-4)"), 3);
        due("8: 7/2", melts("7/2"), 3);
        due("8: 1/2", melts("1/2"), 0);
        due("8: -7/2 is -3", melts("10+(0-7)/2"), 7);
        due("8: 7/-2 is -3", melts("10+7/(0-2)"), 7);
        due("8: -7/-2 is 3", melts("(0-7)/(0-2)"), 3);
        due("8: -1/2 is 0", melts("10+(0-1)/2"), 10);
        due("8: / from the left", melts("100/10/5"), 2);
        due("8: / and * from the left", melts("7/2*2"), 6);
        due("8: - from the left", melts("9-3-2"), 4);
        due("8: - and + from the left", melts("9-3+2"), 8);
        due("8: * ahead of +", melts("2+3*4"), 14);
    }

    /** "ints that wrap" */
    private static void wrapping() {
        String least = "2048*1024*1024";
        due("8: 2 to the 31st is below 0", melts(least + "<0"), 1);
        due("8: one less is the most", melts("0<" + least + "-1"), 1);
        due("8: one more than the most", melts(least + "-1+1<0"), 1);
        due("8: 2 to the 32nd", melts(least + "*2"), 0);
        due("8: 2 to the 32nd and 7", melts(least + "*2+7"), 7);
        due("8: the least by -1", melts(least + "/(0-1)=" + least), 1);
        due("8: 0 less the least", melts("0-" + least + "=" + least), 1);
        due("8: 9999 three times", melts("9999*9999*9999<0"), 9999 * 9999 * 9999 < 0 ? 1 : 0);
        due("8: the least is kept to 0", melts(least), 0);
        due("8: the most is kept to 20", melts(least + "-1"), 20);
        due("8: the least is kept to -3", leans(least), -3);
        due("8: the most is kept to 3", leans(least + "-1"), 3);
    }

    /** "tests, not, and, or are 1 or 0 (what isn't 0 holds)" */
    private static void truths() {
        due("8: 3<3", melts("3<3"), 0);
        due("8: 3<4", melts("3<4"), 1);
        due("8: 4<3", melts("4<3"), 0);
        due("8: -1<0", melts("0-1<0"), 1);
        due("8: 3=3", melts("3=3"), 1);
        due("8: 3=4", melts("3=4"), 0);
        due("8: not 0", melts("not 0"), 1);
        due("8: not 1", melts("not 1"), 0);
        due("8: not 7", melts("not 7"), 0);
        due("8: not -1", melts("not 0-1"), 0);
        due("8: not not 7", melts("not not 7"), 1);
        due("8: six nots", melts("not not not not not not 7"), 1);
        due("8: five nots", melts("not not not not not 7"), 0);
        due("8: 7 or 0", melts("7 or 0"), 1);
        due("8: 0 or 7", melts("0 or 7"), 1);
        due("8: 0 or 0", melts("0 or 0"), 0);
        due("8: 0 or -1", melts("0 or 0-1"), 1);
        due("8: 7 and 9", melts("7 and 9"), 1);
        due("8: 7 and 0", melts("7 and 0"), 0);
        due("8: 0 and 7", melts("0 and 7"), 0);
        due("8: -1 and 2", melts("0-1 and 2"), 1);
        due("8: 7 alone", melts("7"), 7);
        due("8: 7 in parentheses", melts("(((((7)))))"), 7);
        due("8: and ahead of or", melts("1 or 0 and 0"), 1);
        due("8: not ahead of and", melts("not 0 and 0"), 0);
        due("8: a test ahead of not", melts("not 0=1"), 1);
        due("8: a sum ahead of a test", melts("1+1<2+1"), 1);
        for (int inmost = 0; inmost <= 1; inmost++) {
            String deep = "0 or 1 and 1=0+1*(".repeat(5) + "0 or 1 and 1=0+1*" + inmost + ")".repeat(5);
            due("8: as deep as there may be, " + inmost, melts(deep), inmost);
        }
    }

    // ---- a day

    /** "what MELTS gives, kept to 0 to 20" */
    private static void meltsKept() {
        due("8: -1", melts("0-1"), 0);
        due("8: 0", melts("0"), 0);
        due("8: 1", melts("1"), 1);
        due("8: 19", melts("19"), 19);
        due("8: 20", melts("20"), 20);
        due("8: 21", melts("21"), 20);
        due("8: 9999", melts("9999"), 20);
        due("8: -9999", melts("0-9999"), 0);
        due("8: a rule worth 0 is no rule left out", of("head 9 0 0;heat 9;melts 0;leans 0;").then(0, 1, 0), 9);
    }

    /** "(without it HEAT less ALMOND)" */
    private static void meltsWithoutARule() {
        due("8: 9 less 0", of("head 99 0 0;heat 9;").then(0, 1, 0), 90);
        due("8: 9 less 9", of("head 99 9 0;heat 9;").then(0, 1, 0), 99);
        due("8: 9 less 8", of("head 99 8 0;heat 9;").then(0, 1, 0), 98);
        due("8: 0 less 0", of("head 99 0 0;heat 0;").then(0, 1, 0), 99);
        due("8: 0 less 9 is none", of("head 50 9 0;heat 0;").then(0, 1, 0), 50);
        due("8: 4 less 3, without heat", of("head 99 3 0;").then(0, 1, 0), 98);
        due("8: 4 less 5, without heat", of("head 50 5 0;").then(0, 1, 0), 50);
    }

    /** "not below 0; who has none then has FALLEN (LEAN stays)" */
    private static void sugarNotBelowNone() {
        AlmondCabinet x = of("head 6 0 0;head 5 0 0;head 4 0 0;head 1 0 0;melts 5;leans 2;");
        x.days(1);
        int[] sugar = {1, 0, 0, 0};
        int[] lean = {2, 0, 0, 0};
        for (int head = 0; head < 4; head++) {
            due("8: sugar of " + head, x.head(head, 0), sugar[head]);
            due("8: lean of " + head, x.head(head, 2), lean[head]);
        }
        due("8: who has 1 stands", x.count(3), 1);
        AlmondCabinet y = of("head 10 0 0;head 99 1 0;melts (almond=0 and day=2)*20;leans (almond=0)*3;", 3);
        due("8: who melts doesn't come to 9", y.head(0, 2), 6);
        due("8: and knocks nobody", y.head(1, 2), 0);
        due("8: but has fallen", y.count(3), 2);
    }

    /** "what LEANS gives, kept to -3 to 3" */
    private static void leansKept() {
        int[] given = {-9999, -4, -3, -2, -1, 0, 1, 2, 3, 4, 9999};
        for (int number : given) {
            String expr = number < 0 ? "0-" + -number : "" + number;
            due("8: leans " + number, leans(expr), Math.max(-3, Math.min(3, number)));
        }
        AlmondCabinet x = of("head 30 9 0;head 50 9 0;heat 9;leans 0;", 1);
        due("8: a rule worth 0 is no rule left out", x.head(0, 2), 0);
    }

    /** "(without it, if HEAT is 5 or more: 1, if 'left' is more than 'right', -1, if it is less; else 0)" */
    private static void leansWithoutARule() {
        int[] heats = {0, 4, 5, 6, 9};
        for (int heat : heats) {
            AlmondCabinet x = of("head 30 9 0;head 50 9 0;head 30 9 0;heat " + heat + ";", 1);
            int hot = heat >= 5 ? 1 : 0;
            due("8: less on the left, heat " + heat, x.head(0, 2), -hot);
            due("8: as much on both sides, heat " + heat, x.head(1, 2), 0);
            due("8: more on the left, heat " + heat, x.head(2, 2), hot);
        }
        due("8: alone", of("head 30 9 0;heat 9;", 1).head(0, 2), 0);
        AlmondCabinet one = of("head 30 9 0;head 50 9 0;head 31 9 0;heat 9;", 1);
        due("8: one less on the left", one.head(1, 2), -1);
    }

    /** "'left', 'right' (SUGAR of the next one who stands on that side; 0, if there is none)" */
    private static void nextOnes() {
        String text = "head 7 0 0;head 3 1 0;head 9 2 0;melts (almond=1)*3;";
        AlmondCabinet x = of(text + "leans (left=0)+(right=9)*2;", 1);
        due("8: none on the left, 9 beyond the fallen", x.head(0, 2), 3);
        AlmondCabinet y = of(text + "leans (right=0)+(left=7)*2;", 1);
        due("8: none on the right, 7 beyond the fallen", y.head(2, 2), 3);
        due("8: the fallen leans no more", y.head(1, 2), 0);
        AlmondCabinet z = of("head 7 0 0;head 8 1 0;head 9 2 0;melts 0;leans (left=8)-(right=8)*2;");
        z.change(0, 1);
        z.days(1);
        due("8: by seats, the middle one", z.head(0, 2), 1);
        due("8: by seats, the left one", z.head(1, 2), 0);
        due("8: by seats, the right one", z.head(2, 2), 0);
        AlmondCabinet all = of("head 7 0 0;head 8 1 0;melts 5;leans (left=2)-(right=3);", 1);
        due("8: as they are behind melting", all.head(0, 2), -1);
        due("8: both of them", all.head(1, 2), 1);
        AlmondCabinet once = of("head 9 0 0;head 9 1 0;melts 0;leans lean+1;", 2);
        due("8: lean is that of the day before", once.head(0, 2), 3);
    }

    /** "(-9 to 9 ..)"; "whoever stands and has LEAN 9, or -9, has FALLEN" */
    private static void leanToNine() {
        for (int side = -1; side <= 1; side += 2) {
            String leans = side < 0 ? "leans 0-2;" : "leans 2;";
            AlmondCabinet x = of("head 99 0 0;melts 0;" + leans, 4);
            due("8: lean 8", x.head(0, 2), 8 * side);
            due("8: stands", x.head(0, 4), 1);
            x.days(1);
            due("8: kept to 9", x.head(0, 2), 9 * side);
            due("8: fell", x.head(0, 4), 0);
            x.days(20);
            due("8: stays", x.head(0, 2), 9 * side);
            AlmondCabinet y = leaning(9 * side);
            due("8: just 9", y.head(0, 2), 9 * side);
            due("8: fell, too", y.count(3), 0);
            due("8: 8 behind three days", leaning(8 * side).count(3), 1);
        }
        due("8: 0 at first", of("head 1 0 0;").head(0, 2), 0);
    }

    private static void fallen(String what, AlmondCabinet x, int standing, int... leans) {
        due(what + ", who stands", x.count(3), standing);
        for (int head = 0; head < leans.length; head++) {
            due(what + ", lean of " + head, x.head(head, 2), leans[head]);
        }
    }

    /** "the next one .. has 2 more LEAN .. (to 9 ..), and has FALLEN at once, if that is 9 .., to the same side" */
    private static void knockedToTheRight() {
        fallen("8: 6 and 2", leaning(9, 6), 2, 9, 8);
        fallen("8: 7 and 2", leaning(9, 7), 0, 9, 9);
        fallen("8: 8 and 2", leaning(9, 8), 0, 9, 9);
        fallen("8: -8 and 2", leaning(9, -8), 2, 9, -6);
        fallen("8: -9 and 2 stands", leaning(9, -9), 2, 9, -7);
        fallen("8: both have 9, the third is knocked once", leaning(9, 9, 4), 4, 9, 9, 6);
        fallen("8: the chain ends at 8", leaning(9, 7, 6, 7), 12, 9, 9, 8, 7);
        fallen("8: nobody is on the right", leaning(7, 9), 1, 7, 9);
        fallen("8: who is knocked falls on to the right", leaning(9, 7, -9), 4, 9, 9, -7);
        fallen("8: all eight", leaning(9, 7, 7, 7, 7, 7, 7, 7), 0, 9, 9, 9, 9, 9, 9, 9, 9);
    }

    /** "or 2 less (.. or -9)" */
    private static void knockedToTheLeft() {
        fallen("8: -6 less 2", leaning(-6, -9), 1, -8, -9);
        fallen("8: -7 less 2", leaning(-7, -9), 0, -9, -9);
        fallen("8: -8 less 2", leaning(-8, -9), 0, -9, -9);
        fallen("8: 8 less 2", leaning(8, -9), 1, 6, -9);
        fallen("8: both have -9, nobody is on the left", leaning(-9, -9), 0, -9, -9);
        fallen("8: 9 and -9 apart", leaning(-9, 9), 0, -9, 9);
        fallen("8: the chain ends at -8", leaning(-7, -6, -7, -9), 3, -7, -8, -9, -9);
        fallen("8: all eight", leaning(-7, -7, -7, -7, -7, -7, -7, -9), 0, -9, -9, -9, -9, -9, -9, -9, -9);
    }

    /** "the next one who stands on that side" */
    private static void knockedOverTheFallen() {
        fallen("8: over one who fell on that day, to 8", leaning(-4, -9, -9), 1, -8, -9, -9);
        fallen("8: over one who fell on that day, to 9", leaning(-5, -9, -9), 0, -9, -9, -9);
        AlmondCabinet x = of("head 99 0 0;head 5 1 0;head 99 2 0;melts (almond=1)*5;leans (almond=0)*3+(almond=2)*2;", 3);
        fallen("8: over one who melted", x, 4, 9, 0, 8);
    }

    /** "Then SEAT by SEAT" */
    private static void seatBySeat() {
        String text = "head 99 0 0;head 99 1 0;head 99 2 0;melts 0;leans (almond=0)*3-(almond=1)*3;";
        AlmondCabinet x = of(text, 3);
        fallen("8: the first one holds the second up", x, 6, 9, -7, 0);
        AlmondCabinet y = of(text);
        y.change(0, 1);
        y.days(3);
        fallen("8: seats changed, both fall", y, 4, 9, -9, 2);
        AlmondCabinet z = of(text);
        z.change(0, 2);
        z.change(0, 1);
        z.days(3);
        fallen("8: seats 2, 0, 1", z, 6, 9, -7, 0);
        due("7: seat 0", z.seat(0), 2);
        due("7: seat 1", z.seat(1), 0);
    }

    /** "A HEAD stands, or has FALLEN": who has fallen neither melts nor leans nor votes. */
    private static void fallenStayAsTheyAre() {
        AlmondCabinet x = of("head 99 0 1;head 99 1 0;melts 1;leans (almond=0)*3;", 3);
        due("8: sugar of the third day", x.head(0, 0), 96);
        x.days(20);
        due("8: melts no more", x.head(0, 0), 96);
        due("8: leans no more", x.head(0, 2), 9);
        due("8: the other one melts", x.head(1, 0), 76);
        due("21: doesn't vote for it", x.votes(0, 0), 0);
        due("21: nor against it", x.votes(1, 1), 2);
    }

    /** "else as the first one, if LEAN is 0 or more, as the second one, if it is less" */
    private static void marbledOpinions() {
        for (int lean = -3; lean <= 3; lean++) {
            String rule = lean < 0 ? "0-" + -lean : "" + lean;
            AlmondCabinet x = of("marbled 99 0 12 10;melts 0;leans " + rule + ";", 1);
            due("6: its lean", x.head(0, 2), lean);
            due("6: by lean " + lean, x.head(0, 6), lean < 0 ? 10 : 12);
        }
        AlmondCabinet like = of("marbled 99 0 40 40;melts 0;leans 0-1;");
        due("6: both parts are like", like.head(0, 6), 40);
        like.days(1);
        due("6: like to the left, too", like.head(0, 6), 40);
    }

    /** "whose LEAN is 5 or more, or -5 or less, is as is the OPINION of the next one .. (one's own, if .. none)" */
    private static void followingTheNext() {
        int[] first = {1, 0};
        due("21: 4 votes by itself", leaning(first, 4, 0).votes(0, 0), 1);
        due("21: 5 as the next one", leaning(first, 5, 0).votes(0, 0), 0);
        due("21: 8 as the next one", leaning(first, 8, 0).votes(0, 0), 0);
        due("21: -5 without a next one", leaning(first, -5, 0).votes(0, 0), 1);
        due("21: -4 by itself", leaning(first, 0, -4).votes(0, 0), 1);
        due("21: -5 as the next one", leaning(first, 0, -5).votes(0, 0), 3);
        due("21: -8 as the next one", leaning(first, 0, -8).votes(0, 0), 3);
        due("21: 5 without a next one", leaning(first, 0, 5).votes(0, 0), 1);
        due("21: each as the other one", leaning(first, 5, -5).votes(0, 0), 2);
        due("21: by opinion, not by vote", leaning(new int[] {0, 1, 0}, 5, 5, 0).votes(0, 0), 1);
        AlmondCabinet x = leaning(new int[] {0, 0, 1}, 5, -9, 0);
        due("21: over the fallen", x.count(3), 5);
        due("21: 3 is less than 5", x.votes(0, 0), 4);
        AlmondCabinet y = leaning(new int[] {0, 0, 1}, 7, -9, 0);
        due("21: knocked to 5, beyond the fallen", y.votes(0, 0), 5);
    }

    /** "It PASSES, if more are for it than against it." */
    private static void moreForThanAgainst() {
        for (int heads = 0; heads <= 8; heads++) {
            for (int isFor = 0; isFor <= heads; isFor++) {
                AlmondCabinet x = of("head 9 0 1;".repeat(isFor) + "head 9 0 0;".repeat(heads - isFor));
                due("5: " + isFor + " of " + heads, x.count(4), isFor > heads - isFor ? 1 : 0);
            }
        }
    }

    // ---- acts

    /** "DAYS go by (1 to 20)"; "NONE (STATUS 1): not 1 to 20" */
    private static void daysOneToTwenty() {
        for (int many = 1; many <= 20; many++) {
            AlmondCabinet x = of(FOUR);
            due("8: days(" + many + ")", x.days(many), many);
            due("8: is one act", x.count(6), 1);
            due("8: the same day by day", x.head(0, 0), of(FOUR).then(0, many, 0));
        }
        due("8: days without heads", new AlmondCabinet().days(20), 20);
        AlmondCabinet none = new AlmondCabinet();
        due("8: 0", none.days(0), AlmondCabinet.NONE);
        due("8: 21", none.days(21), AlmondCabinet.NONE);
        due("8: refused", none.count(STATUS_ACTS), 2);
    }

    /** "it would be above 999" */
    private static void dayOf999() {
        AlmondCabinet x = of("head 99 9 1;heat 9 8 7;", 980);
        due("8: to 1000", x.days(20), AlmondCabinet.NONE);
        due("8: stays 980", x.count(1), 980);
        due("8: STATUS", x.count(STATUS_ACTS), 1);
        due("8: no act more", x.count(6), 40);
        due("8: to 999", x.days(19), 999);
        due("8: one more", x.days(1), AlmondCabinet.NONE);
        due("8: twenty more", x.days(20), AlmondCabinet.NONE);
        due("8: the most", x.days(MANY), AlmondCabinet.NONE);
        due("8: 999", x.count(1), 999);
        due("8: all counted", x.count(STATUS_ACTS), 4);
        due("15: what comes then can be asked", x.then(0, 40, 0), 99);
        due("31: heat, too", x.hottest(40), 0);
        due("14: undone", x.undo(), 39);
        due("14: to 980", x.count(1), 980);
        due("8: 19 once more", x.days(19), 999);
        AlmondCabinet day = of("head 99 0 1;melts (day=1000)*5+(day=1038)*7;leans 0;", 999);
        due("15: days above 999", day.then(0, 2, 0), 94);
        due("15: the last of 40", day.then(0, 40, 0), 87);
    }

    /** "PROPPED (LEAN is 0)"; "False (STATUS 1): it has FALLEN, LEAN is 0" */
    private static void propped() {
        for (int lean = -9; lean <= 9; lean++) {
            AlmondCabinet x = leaning(lean);
            boolean can = lean != 0 && Math.abs(lean) < 9;
            due("9: lean " + lean, x.prop(0), can);
            due("9: lean then, " + lean, x.head(0, 2), can ? 0 : lean);
            due("9: stands as it did, " + lean, x.head(0, 4), Math.abs(lean) < 9 ? 1 : 0);
            due("9: STATUS, " + lean, x.count(STATUS_ACTS), can ? 0 : 1);
            due("9: acts, " + lean, x.count(6), can ? 2 : 1);
        }
        AlmondCabinet melted = of("head 5 0 0;melts (day=1)*5;leans 2;", 2);
        due("9: fallen with lean 2", melted.head(0, 2), 2);
        due("9: can't be propped", melted.prop(0), false);
        due("9: leans on", melted.head(0, 2), 2);
        elements("9: prop", 0, 3, head -> of(FOUR).prop(head) ? 1 : 0);
    }

    /** "SUGAR is 1 to 50 more (99 at most), and one who has FALLEN stands again, LEAN 0" */
    private static void castOneToFifty() {
        int[] refused = {0, 51, -1, -50, FEW, MANY};
        for (int more : refused) {
            AlmondCabinet x = of("head 10 0 0;");
            due("10: cast by " + more, x.cast(0, more), AlmondCabinet.NONE);
            due("10: sugar stays, " + more, x.head(0, 0), 10);
            due("10: STATUS, " + more, x.count(STATUS_ACTS), 1);
            due("10: no act, " + more, x.count(6), 0);
        }
        for (int more = 1; more <= 50; more++) {
            due("10: 10 and " + more, of("head 10 0 0;").cast(0, more), 10 + more);
        }
        due("10: 49 and 50", of("head 49 0 0;").cast(0, 50), 99);
        due("10: 50 and 50", of("head 50 0 0;").cast(0, 50), 99);
        due("10: 98 and 1", of("head 98 0 0;").cast(0, 1), 99);
        AlmondCabinet full = of("head 99 0 0;");
        due("10: 99 and 1", full.cast(0, 1), 99);
        due("10: is an act all the same", full.count(6), 1);
        AlmondCabinet x = leaning(9, 3);
        due("10: fallen, cast by 51", x.cast(0, 51), AlmondCabinet.NONE);
        due("10: has fallen still", x.head(0, 4), 0);
        due("10: fallen, cast by 1", x.cast(0, 1), 99);
        due("10: stands again", x.head(0, 4), 1);
        due("10: lean 0", x.head(0, 2), 0);
        due("10: one who stands", x.cast(1, 1), 99);
        due("10: keeps lean", x.head(1, 2), 5);
        AlmondCabinet melted = of("head 4 0 0;", 1);
        due("10: from none", melted.cast(0, 1), 1);
        due("10: stands with 1", melted.count(3), 1);
        elements("10: cast", 0, 3, head -> of(FOUR).cast(head, 1));
        noElement("10: no head ahead of not 1 to 50", () -> of(FOUR).cast(4, 51));
    }

    /** "SUGAR 1 to 9 less; not to 0"; "NONE (STATUS 1): not 1 to 9, it would have none" */
    private static void lickedOneToNine() {
        int[] refused = {0, 10, -1, FEW, MANY};
        for (int less : refused) {
            AlmondCabinet x = of("head 50 0 0;");
            due("11: lick by " + less, x.lick(0, less), AlmondCabinet.NONE);
            due("11: sugar stays, " + less, x.head(0, 0), 50);
            due("11: STATUS, " + less, x.count(STATUS_ACTS), 1);
            due("11: no act, " + less, x.count(6), 0);
        }
        for (int less = 1; less <= 9; less++) {
            due("11: 50 less " + less, of("head 50 0 0;").lick(0, less), 50 - less);
            due("11: to 1 by " + less, of("head " + (less + 1) + " 0 0;").lick(0, less), 1);
            due("11: to 0 by " + less, of("head " + less + " 0 0;").lick(0, less), AlmondCabinet.NONE);
        }
        due("11: below 0", of("head 8 0 0;").lick(0, 9), AlmondCabinet.NONE);
        AlmondCabinet melted = of("head 4 0 0;", 1);
        due("11: of none", melted.lick(0, 1), AlmondCabinet.NONE);
        due("11: STATUS", melted.count(STATUS_ACTS), 1);
        elements("11: lick", 0, 3, head -> of(FOUR).lick(head, 1));
        noElement("11: no head ahead of not 1 to 9", () -> of(FOUR).lick(4, 0));
    }

    /** "an OPINION of one on a QUESTION is TURNED (of a marbled one in both parts)" */
    private static void turnedQuestions() {
        for (int question = 0; question <= 5; question++) {
            AlmondCabinet x = of("head 9 0 0;head 9 0 63;marbled 9 0 0 63;melts 0;leans 0-1;");
            due("12: for " + question, x.turn(0, question), 1 << question);
            due("12: against " + question, x.turn(1, question), 63 ^ 1 << question);
            due("12: the first part " + question, x.turn(2, question), 1 << question);
            x.days(1);
            due("12: the second part " + question, x.head(2, 6), 63 ^ 1 << question);
            due("12: back again " + question, x.turn(2, question), 63);
            due("12: acts", x.count(6), 5);
        }
        elements("12: turn, head", 0, 3, head -> of(FOUR).turn(head, 0));
        elements("12: turn, question", 0, 5, question -> of(FOUR).turn(0, question));
        AlmondCabinet fallen = leaning(9);
        due("12: who has fallen, too", fallen.turn(0, 5), 32);
    }

    /** "two HEADS change SEATS"; "False (STATUS 1): both are one" */
    private static void changedSeats() {
        for (int head = 0; head < 4; head++) {
            for (int other = 0; other < 4; other++) {
                AlmondCabinet x = of(FOUR);
                due("13: " + head + " and " + other, x.change(head, other), head != other);
                due("13: seat of the one", x.head(head, 3), other);
                due("13: seat of the other one", x.head(other, 3), head);
                due("13: who is there", x.seat(other), head);
                due("13: STATUS", x.count(STATUS_ACTS), head == other ? 1 : 0);
                due("13: acts", x.count(6), head == other ? 0 : 1);
            }
        }
        elements("13: change, head", 0, 3, head -> of(FOUR).change(head, 1) ? 1 : 0);
        elements("13: change, other", 0, 3, other -> of(FOUR).change(1, other) ? 1 : 0);
        elements("13: both are one", 0, 3, head -> of(FOUR).change(head, head) ? 1 : 0);
    }

    /** What a refused act leaves as it was: all but STATUS 1; an act on what there is not: all. */
    private static void refusedActs() {
        for (int many : new int[] {0, 21, -1, FEW, MANY}) {
            leavesAll("8: days(" + many + ")", Checks::busy, STATUS_ACTS, x -> x.days(many));
        }
        leavesAll("9: prop of the fallen", Checks::busy, STATUS_ACTS, x -> x.prop(2));
        leavesAll("9: prop at lean 0", () -> of(FOUR), STATUS_ACTS, x -> x.prop(0));
        for (int more : new int[] {0, 51, FEW, MANY}) {
            leavesAll("10: cast by " + more, Checks::busy, STATUS_ACTS, x -> x.cast(0, more));
            leavesAll("10: cast of the fallen by " + more, Checks::busy, STATUS_ACTS, x -> x.cast(2, more));
        }
        for (int less : new int[] {0, 10, FEW, MANY}) {
            leavesAll("11: lick by " + less, Checks::busy, STATUS_ACTS, x -> x.lick(0, less));
        }
        leavesAll("11: lick of none", Checks::busy, STATUS_ACTS, x -> x.lick(2, 1));
        leavesAll("13: change of one", Checks::busy, STATUS_ACTS, x -> x.change(1, 1));
        leavesAll("14: undo of none", () -> of(FOUR), NO_STATUS, x -> x.undo());
        leavesAll("14: undo of none in a new one", AlmondCabinet::new, NO_STATUS, x -> x.undo());
        for (int head : new int[] {-1, 3, FEW, MANY}) {
            leavesAll("9: prop(" + head + ")", Checks::busy, NO_STATUS, x -> x.prop(head));
            leavesAll("10: cast(" + head + ")", Checks::busy, NO_STATUS, x -> x.cast(head, 1));
            leavesAll("11: lick(" + head + ")", Checks::busy, NO_STATUS, x -> x.lick(head, 1));
            leavesAll("12: turn(" + head + ")", Checks::busy, NO_STATUS, x -> x.turn(head, 1));
            leavesAll("13: change(" + head + ")", Checks::busy, NO_STATUS, x -> x.change(head, 1));
            leavesAll("13: change with " + head, Checks::busy, NO_STATUS, x -> x.change(1, head));
        }
        leavesAll("12: turn of question 6", Checks::busy, NO_STATUS, x -> x.turn(0, 6));
        leavesAll("12: turn of question -1", Checks::busy, NO_STATUS, x -> x.turn(0, -1));
    }

    /** "ACTS (at most 40 are kept, the latest ones)" */
    private static void fortyActs() {
        for (int many : new int[] {39, 40, 41, 42, 80, 81, 100}) {
            AlmondCabinet x = of("head 99 0 0;heat 0;");
            for (int k = 1; k <= many; k++) {
                x.days(1);
                due("14: kept", x.count(6), Math.min(40, k));
            }
            int kept = Math.min(40, many);
            for (int left = kept - 1; left >= 0; left--) {
                due("14: left", x.undo(), left);
                due("14: the last one first", x.count(1), many - kept + left);
            }
            due("14: no more", x.undo(), AlmondCabinet.NONE);
            due("14: the older ones stand", x.count(1), many - kept);
            due("14: anew", x.days(1), many - kept + 1);
            due("14: one is kept", x.count(6), 1);
        }
        fortyActsOfEight();
    }

    /** Forty acts of eight heads: as much as there may be. */
    private static void fortyActsOfEight() {
        AlmondCabinet x = of("head 99 9 63;".repeat(8) + "heat 0;");
        for (int k = 0; k < 41; k++) {
            x.lick(k % 8, 1);
        }
        due("14: forty of eight", x.count(6), 40);
        for (int k = 40; k >= 1; k--) {
            due("14: left of eight", x.undo(), k - 1);
            due("14: sugar of all", x.count(5), 8 * 99 - k);
            due("14: the one who was licked", x.head(k % 8, 0), 99 - k / 8);
        }
        due("14: the oldest stands", x.head(0, 0), 98);
        due("14: opinions of the eighth", x.head(7, 6), 63);
        due("14: day 0", x.count(1), 0);
    }

    /** "They are UNDONE, the last one first."; "NONE: there is none." */
    private static void undone() {
        AlmondCabinet x = leaning(new int[] {1, 2}, 9, 4);
        x.cast(0, 50);
        due("14: cast at 99 undone", x.undo(), 1);
        due("14: has fallen again", x.head(0, 4), 0);
        due("14: lean 9 again", x.head(0, 2), 9);
        x.lick(1, 9);
        x.cast(1, 50);
        due("14: cast beyond 99", x.head(1, 0), 99);
        due("14: undone", x.undo(), 2);
        due("14: to what it was", x.head(1, 0), 90);
        due("14: lick undone", x.undo(), 1);
        due("14: to 99", x.head(1, 0), 99);
        due("14: days undone", x.undo(), 0);
        due("14: day 0", x.count(1), 0);
        due("14: all stand", x.count(3), 3);
        due("14: lean 0", x.head(0, 2), 0);
        due("14: none is left", x.undo(), AlmondCabinet.NONE);
        due("14: not counted", x.count(STATUS_ACTS), 0);
        AlmondCabinet seats = of(FOUR);
        seats.change(0, 3);
        seats.change(3, 1);
        due("14: changed twice", 100 * seats.seat(0) + 10 * seats.seat(1) + seats.seat(3), 130);
        seats.undo();
        due("14: changed once", 100 * seats.seat(0) + 10 * seats.seat(1) + seats.seat(3), 310);
        due("14: seat of 3", seats.head(3, 3), 0);
        seats.undo();
        due("14: as at first", 100 * seats.seat(0) + 10 * seats.seat(1) + seats.seat(3), 13);
        due("39: neighbours as at first", seats.neighbour(0, 1), 1);
        AlmondCabinet seen = of(FOUR);
        seen.turn(0, 0);
        seen.see(0, 0, true);
        seen.days(0);
        due("14: undone below", seen.undo(), 0);
        due("14: what is seen stays", seen.count(7), 1);
        due("14: STATUS stays", seen.count(STATUS_ACTS), 1);
        AlmondCabinet marbled = of("marbled 9 0 1 2;melts 0;leans 0-1;");
        marbled.turn(0, 4);
        marbled.undo();
        due("14: the first part", marbled.head(0, 6), 1);
        marbled.days(1);
        due("14: the second part", marbled.head(0, 6), 2);
    }
}
