/**
 * Part 3 of the Terms and promises 5 to 7 and 15 to 42: each sentence on what may be asked, from
 * the least to the most, who is asked for when there is nobody, and which of like ones it is.
 */
public final class AskBoundaryTest extends Checks {
    private static final int NONE = AlmondCabinet.NONE;

    public static void main(String[] args) {
        numbersOfAHead();
        numbersOfAQuestion();
        numbersOfWhat();
        numbersOfDays();
        numbersOfSides();
        elementsAheadOfArguments();
        withoutHeads();
        withoutAnyWhoStands();
        askingLeavesAll();
        dayByDay();
        fallsWithinForty();
        downOnOneDay();
        lastOfThem();
        tipsWithinForty();
        decisiveByOne();
        toTurnFewest();
        broughtDown();
        worstOfThem();
        agreeOnSixAtMost();
        partyOfSoMany();
        roomsOfLikeWeight();
        betterThanNow();
        heaviestOfThem();
        meltedSoFar();
        hottestFirst();
        toCastFiftyAtMost();
        margins();
        agreedAndTies();
        factionsOfThem();
        winsAsItTurnsOut();
        middleBySeats();
        neighboursAndBetween();
        leaningFive();
        end("boundaries of what is asked");
    }

    private static AlmondCabinet four() {
        return of(FOUR);
    }

    /** So many for question 0, the lesser ones, and so many against it. */
    private static AlmondCabinet forAndAgainst(int isFor, int against) {
        return of("head 9 0 1;".repeat(isFor) + "head 9 0 0;".repeat(against));
    }

    private static AlmondCabinet sugars(String rules, int... sugars) {
        StringBuilder text = new StringBuilder();
        for (int sugar : sugars) {
            text.append("head ").append(sugar).append(" 0 1;");
        }
        return of(text.append(rules).toString());
    }

    // ---- what may be asked

    /** "NoSuchElementException: no such HEAD (as everywhere)"; "no such SEAT" */
    private static void numbersOfAHead() {
        elements("6: head", 0, 3, head -> four().head(head, 0));
        elements("7: seat", 0, 3, seat -> four().seat(seat));
        elements("15: then", 0, 3, head -> four().then(head, 1, 0));
        elements("17: falls", 0, 3, head -> four().falls(head));
        elements("24: brings", 0, 3, head -> four().brings(head, 1));
        elements("25: agree", 0, 3, head -> four().agree(head, 0));
        elements("25: agree, other", 0, 3, other -> four().agree(0, other));
        elements("26: party", 0, 3, head -> four().party(head, 0));
        elements("33: toCast", 0, 3, head -> four().toCast(head, 1));
        elements("37: wins", 0, 3, head -> four().wins(head));
        elements("39: neighbour", 0, 3, head -> four().neighbour(head, 1));
        elements("42: between", 0, 3, head -> four().between(head, 0));
        elements("42: between, other", 0, 3, other -> four().between(0, other));
        String eight = "head 9 0 0;".repeat(8);
        elements("6: eight heads", 0, 7, head -> of(eight).head(head, 0));
        elements("7: eight seats", 0, 7, seat -> of(eight).seat(seat));
        elements("6: one head", 0, 0, head -> of("head 9 0 0;").head(head, 0));
    }

    /** "also no such QUESTION (as everywhere)" */
    private static void numbersOfAQuestion() {
        elements("20: tips", 0, 5, question -> four().tips(question));
        elements("21: votes", 0, 5, question -> four().votes(question, 0));
        elements("22: decisive", 0, 5, question -> four().decisive(question));
        elements("23: toTurn", 0, 5, question -> four().toTurn(question));
        elements("34: margin", 0, 5, question -> four().margin(question));
        elements("34: margin without heads", 0, 5, question -> new AlmondCabinet().margin(question));
    }

    /** "NoSuchElementException: another what" */
    private static void numbersOfWhat() {
        elements("5: count", 0, 11, what -> four().count(what));
        elements("6: head", 0, 6, what -> four().head(0, what));
        elements("15: then", 0, 2, what -> four().then(0, 1, what));
        elements("16: later", 0, 1, what -> four().later(1, what));
        elements("21: votes", 0, 1, what -> four().votes(0, what));
        elements("27: rooms", 0, 1, what -> four().rooms(what));
        elements("32: worst", 0, 1, what -> four().worst(1, what));
    }

    /** "IllegalArgumentException: not 0 to 40", "not 1 to 40", "not 0 to 6" */
    private static void numbersOfDays() {
        arguments("15: then", 0, 40, days -> four().then(0, days, 0));
        arguments("16: later", 0, 40, days -> four().later(days, 0));
        arguments("18: down", 1, 40, k -> four().down(k));
        arguments("26: party", 0, 6, many -> four().party(0, many));
        arguments("29: heaviest", 0, 40, days -> four().heaviest(days));
        arguments("30: melted", 0, 40, days -> four().melted(days));
        arguments("31: hottest", 1, 40, days -> four().hottest(days));
        arguments("33: toCast", 0, 40, days -> four().toCast(0, days));
        arguments("18: down without heads", 1, 40, k -> new AlmondCabinet().down(k));
        arguments("31: hottest without heads", 1, 40, days -> new AlmondCabinet().hottest(days));
    }

    /** "(-1 left, 1 right)"; "no such side" */
    private static void numbersOfSides() {
        for (int side : new int[] {0, -2, 2, FEW, MANY}) {
            badArgument("24: brings to " + side, () -> four().brings(0, side));
            badArgument("32: worst to " + side, () -> four().worst(side, 0));
            badArgument("39: neighbour to " + side, () -> four().neighbour(0, side));
            badArgument("32: worst without heads to " + side, () -> new AlmondCabinet().worst(side, 0));
        }
        due("24: brings to -1", four().brings(0, -1), 1);
        due("24: brings to 1", four().brings(0, 1), 1);
        due("32: worst to -1", four().worst(-1, 1), 1);
        due("32: worst to 1", four().worst(1, 1), 1);
        due("39: neighbour to -1", four().neighbour(1, -1), 0);
        due("39: neighbour to 1", four().neighbour(1, 1), 2);
    }

    /** "IllegalArgumentException (behind that)", "(behind NoSuchElementException)" */
    private static void elementsAheadOfArguments() {
        AlmondCabinet x = four();
        noElement("15: head and days", () -> x.then(4, 41, 0));
        noElement("15: what and days", () -> x.then(0, -1, 3));
        noElement("15: all", () -> x.then(-1, 41, -1));
        noElement("16: what and days", () -> x.later(41, 2));
        noElement("24: head and side", () -> x.brings(4, 0));
        noElement("26: head and many", () -> x.party(4, 7));
        noElement("32: what and side", () -> x.worst(0, 2));
        noElement("33: head and days", () -> x.toCast(-1, 41));
        noElement("39: head and side", () -> x.neighbour(4, 2));
        AlmondCabinet none = new AlmondCabinet();
        noElement("15: without heads", () -> none.then(0, 41, 0));
        noElement("24: without heads", () -> none.brings(0, 0));
        noElement("26: without heads", () -> none.party(0, 7));
        noElement("33: without heads", () -> none.toCast(0, 41));
        noElement("39: without heads", () -> none.neighbour(0, 0));
    }

    // ---- nobody

    private static void nobody(AlmondCabinet x) {
        due("5: nobody stands", x.count(3), 0);
        due("5: nothing passes", x.count(4), 0);
        for (int days = 0; days <= 40; days += 20) {
            due("16: standing", x.later(days, 0), 0);
            due("16: passed", x.later(days, 1), 0);
            due("29: heaviest", x.heaviest(days), NONE);
            due("30: melted", x.melted(days), 0);
        }
        due("18: down", x.down(1), 0);
        due("19: last", x.last(), NONE);
        for (int question = 0; question <= 5; question++) {
            due("20: tips", x.tips(question), NONE);
            due("21: votes for it", x.votes(question, 0), 0);
            due("21: votes against it", x.votes(question, 1), 0);
            due("22: decisive", x.decisive(question), 0);
            due("23: toTurn", x.toTurn(question), NONE);
            due("34: margin", x.margin(question), 0);
        }
        due("27: rooms", x.rooms(0), 0);
        due("27: who goes", x.rooms(1), 0);
        due("28: better", x.better(), NONE);
        due("32: worst", x.worst(1, 0), NONE);
        due("32: worst to the left", x.worst(-1, 0), NONE);
        due("32: how many", x.worst(1, 1), 0);
        due("35: agreed, all without any", x.agreed(), 63);
        due("36: factions", x.factions(), 0);
        due("38: middle", x.middle(), NONE);
        due("40: ties", x.ties(), 63);
        due("41: leaning", x.leaning(), 0);
    }

    private static void withoutHeads() {
        nobody(new AlmondCabinet());
        nobody(of("heat 9;melts 20;leans 3;"));
        due("31: hottest is asked of days alone", of("heat 1 9;").hottest(2), 1);
    }

    private static void withoutAnyWhoStands() {
        AlmondCabinet x = leaning(new int[] {63, 1}, 9, 7);
        nobody(x);
        for (int head = 0; head < 2; head++) {
            due("17: falls", x.falls(head), 0);
            due("24: brings", x.brings(head, 1), 0);
            due("33: toCast", x.toCast(head, 0), NONE);
            due("37: wins", x.wins(head), 0);
            due("39: neighbour", x.neighbour(head, head == 0 ? 1 : -1), NONE);
            due("15: stands", x.then(head, 0, 2), 0);
            due("15: sugar", x.then(head, 40, 0), 99);
        }
        due("25: agree, all the same", x.agree(0, 1), 1);
        due("26: party, standing or not", x.party(0, 1), 3);
        due("42: between", x.between(0, 1), 0);
    }

    /** What is asked changes nothing: neither the state nor STATUS. */
    private static void askingLeavesAll() {
        leavesAll("15 to 20: foreseeing", Checks::busy, NO_STATUS, x -> {
            x.then(0, 40, 0);
            x.later(40, 1);
            x.falls(0);
            x.down(40);
            x.last();
            x.tips(0);
        });
        leavesAll("21 to 28: votes", Checks::busy, NO_STATUS, x -> {
            x.votes(0, 1);
            x.decisive(0);
            x.toTurn(0);
            x.brings(0, 1);
            x.agree(0, 1);
            x.party(0, 3);
            x.rooms(1);
            x.better();
        });
        leavesAll("29 to 33: sugar", Checks::busy, NO_STATUS, x -> {
            x.heaviest(40);
            x.melted(40);
            x.hottest(40);
            x.worst(1, 0);
            x.toCast(0, 40);
        });
        leavesAll("34 to 42: one another", Checks::busy, NO_STATUS, x -> {
            x.margin(0);
            x.agreed();
            x.factions();
            x.wins(0);
            x.middle();
            x.neighbour(0, 1);
            x.ties();
            x.leaning();
            x.between(0, 1);
        });
        for (int what : new int[] {12, -1}) {
            leavesAll("5: count(" + what + ")", Checks::busy, NO_STATUS, x -> x.count(what));
        }
        leavesAll("15: then refused", Checks::busy, NO_STATUS, x -> x.then(0, 41, 0));
        leavesAll("24: brings refused", Checks::busy, NO_STATUS, x -> x.brings(0, 0));
        leavesAll("33: toCast refused", Checks::busy, NO_STATUS, x -> x.toCast(0, 41));
    }

    // ---- if only days go by

    /** "THEN, behind so many DAYS (0 to 40)": as if that many had gone by. */
    private static void dayByDay() {
        for (String text : new String[] {FOUR, CHAIN, CHAIN_LEFT}) {
            for (int days = 0; days <= 40; days++) {
                AlmondCabinet x = of(text);
                AlmondCabinet y = of(text, days);
                for (int head = 0; head < 4; head++) {
                    due("15: sugar behind " + days, x.then(head, days, 0), y.head(head, 0));
                    due("15: lean behind " + days, x.then(head, days, 1), y.head(head, 2));
                    due("15: stands behind " + days, x.then(head, days, 2), y.head(head, 4));
                }
                due("16: standing behind " + days, x.later(days, 0), y.count(3));
                due("16: passed behind " + days, x.later(days, 1), y.count(4));
                due("30: melted in " + days, x.melted(days), x.count(5) - y.count(5));
                due("29: heaviest behind " + days, x.heaviest(days), y.heaviest(0));
            }
        }
        AlmondCabinet late = of(FOUR, 3);
        due("15: from now on", late.then(0, 2, 0), of(FOUR).then(0, 5, 0));
    }

    /** "behind how many DAYS (0 to 40) a HEAD has FALLEN first; none" */
    private static void fallsWithinForty() {
        AlmondCabinet x = sugars("melts 1;leans 0;", 1, 2, 39, 40, 41, 99);
        int[] falls = {1, 2, 39, 40, NONE, NONE};
        for (int head = 0; head < falls.length; head++) {
            due("17: falls(" + head + ")", x.falls(head), falls[head]);
        }
        x.days(1);
        due("17: has fallen", x.falls(0), 0);
        due("17: a day later", x.falls(1), 1);
        due("17: 41 comes to 40", x.falls(4), 40);
        x.cast(0, 3);
        due("17: cast anew", x.falls(0), 3);
        AlmondCabinet leans = of("head 99 0 0;melts 0;leans (39-day<3)*3;");
        due("17: by lean on the 40th", leans.falls(0), 40);
        AlmondCabinet later = of("head 99 0 0;melts 0;leans (40-day<3)*3;");
        due("17: by lean on the 41st", later.falls(0), NONE);
    }

    /** "DOWN on the k-th DAY from now (1 to 40): who falls on it (bits)" */
    private static void downOnOneDay() {
        AlmondCabinet x = sugars("melts 1;leans 0;", 1, 2, 40, 41, 1, 99);
        due("18: the first", x.down(1), 17);
        due("18: the second", x.down(2), 2);
        due("18: the third", x.down(3), 0);
        due("18: the 39th", x.down(39), 0);
        due("18: the 40th", x.down(40), 4);
        x.days(1);
        due("18: from now", x.down(1), 2);
        due("18: the 41st is the 40th", x.down(40), 8);
        due("18: all eight on one day", leaningSoon().down(1), 255);
    }

    /** Eight who all fall on the next day, the first one taking the others with it. */
    private static AlmondCabinet leaningSoon() {
        AlmondCabinet x = leaning(9, 7, 7, 7, 7, 7, 7, 7);
        x.undo();
        x.days(2);
        return x;
    }

    /** "(who doesn't within 40 DAYS is later than any; of like ones the least) of those who stand now; none" */
    private static void lastOfThem() {
        String rules = "melts 1;leans 0;";
        due("19: 40 and 41", sugars(rules, 40, 41).last(), 1);
        due("19: 41 and 99 are like", sugars(rules, 41, 99).last(), 0);
        due("19: 99 and 41 are like", sugars(rules, 99, 41).last(), 0);
        due("19: 39 and 40", sugars(rules, 39, 40).last(), 1);
        due("19: 40 and 39", sugars(rules, 40, 39).last(), 0);
        due("19: 40 and 40", sugars(rules, 40, 40).last(), 0);
        due("19: 1 alone", sugars(rules, 1).last(), 0);
        due("19: 1 and 1", sugars(rules, 1, 1).last(), 0);
        AlmondCabinet x = sugars(rules, 1, 5, 5);
        x.days(1);
        due("19: of those who stand", x.last(), 1);
        x.days(4);
        due("19: nobody stands", x.last(), NONE);
    }

    /** "behind how many DAYS (1 to 40) a QUESTION first PASSES, if it doesn't now, or doesn't, if it does; none" */
    private static void tipsWithinForty() {
        String rules = "melts 1;leans 0;";
        due("20: passes no more behind 1", sugars(rules, 1).tips(0), 1);
        due("20: passes no more behind 40", sugars(rules, 40).tips(0), 40);
        due("20: not within 40", sugars(rules, 41).tips(0), NONE);
        due("20: never passes", sugars(rules, 1).tips(1), NONE);
        due("20: passes behind 1", of("head 99 0 1;head 1 0 0;" + rules).tips(0), 1);
        due("20: passes behind 40", of("head 99 0 1;head 40 0 0;" + rules).tips(0), 40);
        due("20: passes behind 41", of("head 99 0 1;head 41 0 0;" + rules).tips(0), NONE);
        due("20: first, though it turns again", of("head 9 0 1;head 5 0 0;" + rules).tips(0), 5);
    }

    // ---- votes

    /** "had it alone FALLEN (nothing else being moved by it), it would PASS otherwise" */
    private static void decisiveByOne() {
        int[][] cases = {{1, 0, 1}, {2, 0, 0}, {2, 1, 3}, {1, 1, 2}, {1, 2, 0}, {3, 1, 0}, {3, 2, 7}, {2, 2, 12}, {0, 1, 0},
            {4, 4, 240}, {5, 3, 0}, {3, 5, 0}, {4, 3, 15}, {8, 0, 0}, {0, 8, 0}};
        for (int[] its : cases) {
            due("22: " + its[0] + " for, " + its[1] + " against", forAndAgainst(its[0], its[1]).decisive(0), its[2]);
        }
        AlmondCabinet x = leaning(new int[] {0, 1, 0}, -9, 7, 0);
        due("22: without 2, 1 would vote by itself; who has fallen is not decisive", x.decisive(0), 4);
    }

    /** "the fewest HEADS who stand whose OPINION .. must be TURNED ..: of as few the least as bits; none" */
    private static void toTurnFewest() {
        int[][] cases = {{0, 1, 1}, {1, 0, 1}, {0, 2, 3}, {1, 1, 2}, {2, 0, 1}, {2, 1, 1}, {1, 2, 2}, {3, 0, 3}, {0, 3, 3},
            {8, 0, 15}, {0, 8, 31}, {4, 4, 16}, {5, 3, 1}, {3, 5, 24}};
        for (int[] its : cases) {
            due("23: " + its[0] + " for, " + its[1] + " against", forAndAgainst(its[0], its[1]).toTurn(0), its[2]);
        }
        AlmondCabinet x = leaning(new int[] {1, 0, 0}, -9, 0, 0);
        due("23: those who stand", x.toTurn(0), 6);
        AlmondCabinet y = leaning(new int[] {0, 0, 0, 0}, 5, 0, -5, -5);
        due("23: 1, whom 0 and 2 follow", y.toTurn(0), 2);
        AlmondCabinet z = leaning(new int[] {1, 1, 1, 1}, 0, 0, 0, -5);
        due("23: one, 2, is fewer than two, though 0 and 1 are less as bits", z.toTurn(0), 4);
    }

    /** "who falls with it, it too (bits; 0, if it doesn't stand)" */
    private static void broughtDown() {
        due("24: 6 is held", leaning(0, 6).brings(0, 1), 1);
        due("24: 7 falls", leaning(0, 7).brings(0, 1), 3);
        due("24: 8 falls", leaning(0, 8).brings(0, 1), 3);
        due("24: -8 is held", leaning(0, -8).brings(0, 1), 1);
        due("24: -6 is held", leaning(-6, 0).brings(1, -1), 2);
        due("24: -7 falls", leaning(-7, 0).brings(1, -1), 3);
        due("24: -8 falls", leaning(-8, 0).brings(1, -1), 3);
        due("24: 8 is held to the left", leaning(8, 0).brings(1, -1), 2);
        due("24: nobody on that side", leaning(0, 7).brings(1, 1), 2);
        due("24: its own lean is no matter", leaning(-8, 7).brings(0, 1), 3);
        due("24: up to who is held", leaning(0, 7, 8, 7, 6, 7).brings(0, 1), 15);
        due("24: all eight", leaning(7, 7, 7, 7, 7, 7, 7, 7).brings(0, 1), 255);
        due("24: all eight to the left", leaning(-7, -7, -7, -7, -7, -7, -7, -7).brings(7, -1), 255);
        AlmondCabinet x = of("head 99 0 0;head 5 1 0;head 99 2 0;melts (almond=1)*5;leans (almond=2)*(3-2*(day=2));", 3);
        due("24: over the fallen", x.brings(0, 1), 5);
        due("24: of the fallen", x.brings(1, 1), 0);
        x.prop(2);
        x.change(1, 2);
        due("24: by seats", x.brings(0, 1), 1);
    }

    /** "most would be BROUGHT DOWN (of like ones the least): which; how many" */
    private static void worstOfThem() {
        AlmondCabinet x = leaning(7, 7, 7, 7, 7, 7, 7, 7);
        due("32: the first one", x.worst(1, 0), 0);
        due("32: brings all down", x.worst(1, 1), 8);
        due("32: each alone, the least", x.worst(-1, 0), 0);
        due("32: one", x.worst(-1, 1), 1);
        AlmondCabinet y = leaning(0, 7, 0, 7);
        due("32: of like ones the least", y.worst(1, 0), 0);
        due("32: two", y.worst(1, 1), 2);
        AlmondCabinet z = leaning(0, 0, 7, 7);
        due("32: the one with most", z.worst(1, 0), 1);
        due("32: three", z.worst(1, 1), 3);
        AlmondCabinet fallen = leaning(9, 0);
        due("32: who stands", fallen.worst(1, 0), 1);
    }

    /** "on how many QUESTIONS two HEADS have one OPINION now" */
    private static void agreeOnSixAtMost() {
        for (int many = 0; many <= 6; many++) {
            AlmondCabinet x = of("head 9 0 0;head 9 0 " + ((1 << many) - 1) + ";");
            due("25: " + many + " unlike", x.agree(0, 1), 6 - many);
            due("25: other way, " + many, x.agree(1, 0), 6 - many);
            due("25: with itself, " + many, x.agree(1, 1), 6);
        }
    }

    /** "AGREE with it on so many (0 to 6) QUESTIONS, or more (bits; itself, too)" */
    private static void partyOfSoMany() {
        AlmondCabinet x = of("head 9 0 0;head 9 0 1;head 9 0 3;head 9 0 7;head 9 0 15;head 9 0 31;head 9 0 63;");
        for (int many = 0; many <= 6; many++) {
            due("26: " + many + " or more", x.party(0, many), (1 << 7 - many) - 1);
            due("26: of the last one, " + many, x.party(6, many), 127 & ~((1 << many) - 1));
        }
    }

    /** "differ least: by how much; who go to the one (bits): of like ones the least" */
    private static void roomsOfLikeWeight() {
        int[][] cases = {{9}, {5, 5}, {5, 9}, {9, 5}, {3, 3, 6}, {6, 3, 3}, {1, 1, 1}, {99, 99, 99, 99, 99, 99, 99, 99},
            {1, 2, 4, 8, 16, 32, 64, 99}, {1, 99}};
        int[][] answers = {{9, 0}, {0, 1}, {4, 1}, {4, 1}, {0, 3}, {0, 1}, {1, 1}, {0, 15}, {0, 15}, {98, 1}};
        answers[8] = roomsByHand(cases[8]);
        for (int k = 0; k < cases.length; k++) {
            AlmondCabinet x = sugars("", cases[k]);
            due("27: by how much, case " + k, x.rooms(0), answers[k][0]);
            due("27: who, case " + k, x.rooms(1), answers[k][1]);
        }
        AlmondCabinet fallen = leaning(9, 0, 0);
        due("27: those who stand", fallen.rooms(0), 0);
        due("27: the lesser of them", fallen.rooms(1), 2);
    }

    private static int[] roomsByHand(int[] sugars) {
        int[] best = {MANY, 0};
        for (int set = 0; set < 1 << sugars.length; set++) {
            int unlike = 0;
            for (int head = 0; head < sugars.length; head++) {
                unlike += (set >> head & 1) == 1 ? sugars[head] : -sugars[head];
            }
            if (Math.abs(unlike) < best[0]) {
                best[0] = Math.abs(unlike);
                best[1] = set;
            }
        }
        return best;
    }

    /** "if that are more than now (of like ones the first): 10 by the lesser, and the other one; none" */
    private static void betterThanNow() {
        due("28: one alone", of("head 9 0 0;").better(), NONE);
        due("28: as many as now are not more", leaning(new int[] {0, 1, 2}, 5, 0, 0).better(), NONE);
        due("28: one change alone, not one behind another", leaning(new int[] {0, 0, 1}, -5, 0, 0).better(), NONE);
        due("28: all pass already", leaning(new int[] {63, 63}, 5, 0).better(), NONE);
        AlmondCabinet x = leaning(new int[] {0, 0, 0, 1}, 9, 4, 0, 0);
        x.change(0, 1);
        x.change(0, 2);
        due("28: seats 1, 2, 0, 3", 100 * x.seat(0) + 10 * x.seat(1) + x.seat(2), 120);
        due("28: who stands", x.count(3), 14);
        due("28: votes", x.votes(0, 0), 8);
        due("28: the fallen one's seat helps first", x.better(), 1);
        AlmondCabinet last = leaning(new int[] {0, 0, 0, 0, 0, 0, 0, 1}, 0, 0, 0, 0, 0, 0, -5, 0);
        due("28: 1 of 8 is too few", last.better(), NONE);
        AlmondCabinet two = leaning(new int[] {0, 3, 1}, 5, 0, 0);
        due("28: fewer are not more", two.better(), NONE);
        AlmondCabinet most = leaning(new int[] {0, 1, 3, 3}, 5, 0, 0, 0);
        due("28: one passes now", most.count(4), 1);
        due("28: two by 0 and 1", most.better(), 1);
        AlmondCabinet far = leaning(new int[] {0, 0, 1, 3, 2}, 5, 0, 0, 0, 0);
        due("28: nothing passes now", far.count(4), 0);
        due("28: one by 0 and 1, but two by 0 and 2", far.better(), 2);
    }

    // ---- sugar and heat

    /** "HEAVIEST of those who stand behind so many DAYS .. (of like ones the least); none" */
    private static void heaviestOfThem() {
        String rules = "melts 1;leans 0;";
        due("29: of like ones", sugars(rules, 5, 9, 9).heaviest(0), 1);
        due("29: one with 1", sugars(rules, 40).heaviest(39), 0);
        due("29: nobody behind 40", sugars(rules, 40).heaviest(40), NONE);
        due("29: behind 40", sugars(rules, 40, 41).heaviest(40), 1);
        due("29: not who has fallen with more", leaning(9, 0).heaviest(0), 1);
        AlmondCabinet x = of("head 90 0 0;head 50 9 0;heat 5;leans 0;");
        due("29: behind 8", x.heaviest(7), 0);
        due("29: like behind 8, the least", x.heaviest(8), 0);
        due("29: another one then", x.heaviest(9), 1);
        AlmondCabinet y = of("head 50 9 0;head 60 0 0;heat 5;leans 0;");
        due("29: heavier behind 1", y.heaviest(1), 1);
        due("29: like behind 2, the least again", y.heaviest(2), 0);
        due("29: by sugar then, not by sugar now", y.heaviest(4), 0);
    }

    /** "how much SUGAR of all is less behind them than now" */
    private static void meltedSoFar() {
        AlmondCabinet x = sugars("melts 1;leans 0;", 1, 40, 99);
        due("30: 0", x.melted(0), 0);
        due("30: 1", x.melted(1), 3);
        due("30: 2", x.melted(2), 5);
        due("30: 40", x.melted(40), 81);
        due("30: the most", sugars("melts 20;leans 0;", 99, 99, 99, 99, 99, 99, 99, 99).melted(40), 792);
        due("30: none", sugars("melts 0;leans 0;", 99).melted(40), 0);
    }

    /** "that with most HEAT (of like ones the first; 0 is the one that comes first)" */
    private static void hottestFirst() {
        AlmondCabinet x = of("heat 1 2 3 4 5 6 7 8;");
        for (int days = 1; days <= 40; days++) {
            due("31: of " + days, x.hottest(days), Math.min(days, 8) - 1);
        }
        x.days(5);
        due("31: from day 5, of 3", x.hottest(3), 2);
        due("31: round to the first", x.hottest(40), 2);
        x.days(3);
        due("31: day 8 is the first again", x.hottest(40), 7);
        due("31: all alike", of("heat 3 3 3;").hottest(40), 0);
        due("31: without heat", new AlmondCabinet().hottest(40), 0);
        due("31: the first of like ones", of("heat 0 9 9;").hottest(40), 1);
    }

    /** "the least SUGAR (0 to 50) that a HEAD must have more now (99 at most, LEAN as it is ..); none" */
    private static void toCastFiftyAtMost() {
        String two = "melts 2;leans 0;";
        due("33: 50", sugars(two, 11).toCast(0, 30), 50);
        due("33: 51 is too much", sugars(two, 10).toCast(0, 30), NONE);
        due("33: 1", sugars(two, 60).toCast(0, 30), 1);
        due("33: 0", sugars(two, 61).toCast(0, 30), 0);
        due("33: behind 40", sugars(two, 50).toCast(0, 40), 31);
        String seven = "melts 7;leans 0;";
        due("33: to 99 by 50", sugars(seven, 49).toCast(0, 14), 50);
        due("33: to 99 by 1", sugars(seven, 98).toCast(0, 14), 1);
        due("33: 99 as it is", sugars(seven, 99).toCast(0, 14), 0);
        due("33: 99 is too little", sugars(seven, 99).toCast(0, 15), NONE);
        due("33: 99 at most", sugars(seven, 98).toCast(0, 15), NONE);
        due("33: now", sugars(seven, 1).toCast(0, 0), 0);
        AlmondCabinet fallen = leaning(9);
        due("33: fallen, now", fallen.toCast(0, 0), NONE);
        due("33: fallen, later", fallen.toCast(0, 40), NONE);
        AlmondCabinet leans = of("head 20 0 0;melts 0;leans 1;", 8);
        due("33: lean as it is", leans.toCast(0, 1), NONE);
        due("33: stands yet", leans.toCast(0, 0), 0);
        due("33: the least, though more is worse", of("head 5 0 0;leans 0;melts (9<sugar)*20+5;").toCast(0, 1), 1);
        due("33: to where nothing melts", of("head 5 0 0;leans 0;melts (sugar<30)*9;").toCast(0, 40), 25);
    }

    // ---- how they stand to one another

    /** "by how many more are for it than against it (below 0: fewer)" */
    private static void margins() {
        for (int heads = 0; heads <= 8; heads++) {
            for (int isFor = 0; isFor <= heads; isFor++) {
                AlmondCabinet x = forAndAgainst(isFor, heads - isFor);
                due("34: " + isFor + " of " + heads, x.margin(0), 2 * isFor - heads);
            }
        }
        due("34: who has fallen counts for nothing", leaning(new int[] {1, 1}, -9, 0).margin(0), 1);
    }

    /** "QUESTIONS on which all who stand vote alike"; "QUESTIONS for which as many are as against them now" */
    private static void agreedAndTies() {
        due("35: one alone", of("head 9 0 21;").agreed(), 63);
        due("35: all alike", of("head 9 0 21;head 9 0 21;").agreed(), 63);
        due("35: all unlike", of("head 9 0 21;head 9 0 42;").agreed(), 0);
        due("40: all unlike", of("head 9 0 21;head 9 0 42;").ties(), 63);
        due("40: one alone", of("head 9 0 21;").ties(), 0);
        due("40: of three", of("head 9 0 1;head 9 0 2;head 9 0 4;").ties(), 0);
        due("40: 4 of 8, and 5", of("head 9 0 3;".repeat(4) + "head 9 0 2;" + "head 9 0 0;".repeat(3)).ties(), 1);
        AlmondCabinet follows = leaning(new int[] {21, 42}, 5, 0);
        due("35: by votes", follows.agreed(), 63);
        due("40: by votes", follows.ties(), 0);
        due("35: who has fallen doesn't count", leaning(new int[] {21, 42}, -9, 0).agreed(), 63);
    }

    /** "how many there are of those who stand, if all of one OPINION on all QUESTIONS are one" */
    private static void factionsOfThem() {
        due("36: eight", of("head 9 0 0;head 9 0 1;head 9 0 2;head 9 0 4;head 9 0 8;head 9 0 16;head 9 0 32;head 9 0 63;")
                .factions(), 8);
        due("36: one", of("head 9 0 63;".repeat(8)).factions(), 1);
        due("36: by opinion, not by vote", leaning(new int[] {1, 2}, 5, 0).factions(), 2);
        due("36: those who stand", leaning(new int[] {1, 2}, -9, 0).factions(), 1);
        AlmondCabinet marbled = of("head 9 0 1;marbled 9 1 1 2;melts 0;leans 0-(almond=1);");
        due("36: marbled, lean 0", marbled.factions(), 1);
        marbled.days(1);
        due("36: marbled, lean -1", marbled.factions(), 2);
    }

    /** "(for what PASSES, against what doesn't; bits; 0, if it has FALLEN)" */
    private static void winsAsItTurnsOut() {
        AlmondCabinet tie = of("head 9 0 63;head 9 0 0;");
        due("37: a tie doesn't pass", tie.wins(0), 0);
        due("37: who is against wins", tie.wins(1), 63);
        due("37: alone", of("head 9 0 42;").wins(0), 63);
        AlmondCabinet fallen = leaning(new int[] {63, 63}, -9, 0);
        due("37: fallen", fallen.wins(0), 0);
        due("37: the other one", fallen.wins(1), 63);
    }

    /** "the one with as many on either side (of two the left one); none" */
    private static void middleBySeats() {
        int[] middles = {NONE, 0, 0, 1, 1, 2, 2, 3, 3};
        for (int heads = 0; heads <= 8; heads++) {
            due("38: of " + heads, of("head 9 0 0;".repeat(heads)).middle(), middles[heads]);
        }
        due("38: the first has fallen", leaning(-9, 0, 0).middle(), 1);
        due("38: the last has fallen", leaning(0, 0, 9).middle(), 0);
    }

    /** "The next one who stands on a side"; "How many who stand are in SEATS between those of two HEADS" */
    private static void neighboursAndBetween() {
        AlmondCabinet x = of("head 9 0 0;".repeat(8));
        for (int head = 0; head < 8; head++) {
            due("39: right of " + head, x.neighbour(head, 1), head == 7 ? NONE : head + 1);
            due("39: left of " + head, x.neighbour(head, -1), head - 1);
            for (int other = 0; other < 8; other++) {
                due("42: " + head + " and " + other, x.between(head, other), Math.max(0, Math.abs(head - other) - 1));
            }
        }
        AlmondCabinet one = of("head 9 0 0;");
        due("39: alone", one.neighbour(0, 1), NONE);
        due("39: alone, left", one.neighbour(0, -1), NONE);
        due("42: alone", one.between(0, 0), 0);
        AlmondCabinet ends = leaning(-9, 0, 9);
        due("39: beyond the fallen, none", ends.neighbour(1, 1), NONE);
        due("39: of the fallen", ends.neighbour(0, 1), 1);
        due("42: between the fallen", ends.between(0, 2), 1);
    }

    /** "HEADS who stand, and have LEAN 5 or more, or -5 or less" */
    private static void leaningFive() {
        for (int lean = -9; lean <= 9; lean++) {
            int bits = Math.abs(lean) >= 5 && Math.abs(lean) <= 8 ? 1 : 0;
            due("41: lean " + lean, leaning(lean).leaning(), bits);
        }
        due("41: all eight", leaning(5, -5, 6, -6, 5, -5, 8, -8).leaning(), 255);
    }
}
