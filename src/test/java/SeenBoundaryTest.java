/**
 * Part 4 of the Terms and promises 43 to 50: each sentence on what is seen, whispered, drawn and
 * kept that names a bound, and what refused calls leave as it was.
 */
public final class SeenBoundaryTest extends Checks {
    private static final int NONE = AlmondCabinet.NONE;
    /** One for question 0 whose lean grows by 1 a day. */
    private static final String GROWS = "head 99 0 1;melts 0;leans 1;";

    public static void main(String[] args) {
        eightSeen();
        daysSeen();
        seeRefused();
        forgotten();
        leantWhats();
        leantFromTo();
        leantNotItsOwn();
        leantOfWhoStands();
        leantAllSeen();
        leantBehindDays();
        leantWithout();
        lookWhats();
        lookOneToTwenty();
        lookOfLikeOnes();
        lookWithoutAny();
        gameNumbers();
        gameOfTheFallen();
        gameCouples();
        gameByTurning();
        yearsNumbers();
        yearsHeat();
        yearsCast();
        yearsPropped();
        yearsLicked();
        yearsLetBe();
        yearsWithoutHeads();
        drawsWrap();
        statusCounts();
        imageOfNothing();
        imageKeeps();
        imageInPlace();
        imageGone();
        askingLeavesAll();
        end("boundaries of what is seen and kept");
    }

    // ---- what is seen

    /** "SEEN (at most 8)"; "NONE (STATUS 2): there are 8" */
    private static void eightSeen() {
        AlmondCabinet x = of(FOUR);
        for (int k = 1; k <= 8; k++) {
            due("43: " + k, x.see(k % 6, k, k % 2 == 0), k);
            due("5: seen", x.count(7), k);
        }
        due("43: a ninth", x.see(0, 0, true), NONE);
        due("43: a ninth again", x.see(5, 20, false), NONE);
        due("43: eight", x.count(7), 8);
        due("43: STATUS", x.count(STATUS_SEEN), 2);
        noElement("43: no such question, though there are 8", () -> x.see(6, 0, true));
        due("43: not counted", x.count(STATUS_SEEN), 2);
        due("43: without heads, too", new AlmondCabinet().see(0, 0, true), 1);
    }

    /** "behind so many DAYS (0 to 20)"; "not 0 to 20"; "NoSuchElementException (ahead): no such QUESTION" */
    private static void daysSeen() {
        for (int days = 0; days <= 20; days++) {
            due("43: behind " + days, of(FOUR).see(0, days, true), 1);
        }
        for (int days : new int[] {-1, 21, FEW, MANY}) {
            AlmondCabinet x = of(FOUR);
            due("43: behind " + days, x.see(0, days, true), NONE);
            due("43: nothing is seen, " + days, x.count(7), 0);
            due("43: STATUS, " + days, x.count(STATUS_SEEN), 1);
            noElement("43: question ahead of " + days, () -> x.see(6, days, true));
        }
        elements("43: see", 0, 5, question -> of(FOUR).see(question, 0, true));
    }

    private static AlmondCabinet full() {
        AlmondCabinet x = busy();
        for (int left = 6; left > 0; left--) {
            x.see(3, left, false);
        }
        return x;
    }

    private static void seeRefused() {
        for (int days : new int[] {-1, 21, FEW, MANY}) {
            leavesAll("43: see behind " + days, Checks::busy, STATUS_SEEN, x -> x.see(0, days, true));
        }
        leavesAll("43: a ninth", SeenBoundaryTest::full, STATUS_SEEN, x -> x.see(0, 0, true));
        leavesAll("43: a ninth, not 0 to 20", SeenBoundaryTest::full, STATUS_SEEN, x -> x.see(0, 21, true));
        for (int question : new int[] {-1, 6, FEW, MANY}) {
            leavesAll("43: question " + question, Checks::busy, NO_STATUS, x -> x.see(question, 0, true));
        }
    }

    /** "All that is SEEN is forgotten." */
    private static void forgotten() {
        AlmondCabinet x = full();
        due("46: eight", x.count(7), 8);
        int acts = x.count(6);
        x.forget();
        due("46: none", x.count(7), 0);
        due("46: acts stay", x.count(6), acts);
        due("46: STATUS stays", x.count(STATUS_SEEN), 1);
        due("44: all is so again", x.leant(2), 1);
        due("43: from one again", x.see(0, 0, true), 1);
        leavesAll("46: forget of none", () -> of(FOUR), NO_STATUS, y -> y.forget());
    }

    // ---- leant

    private static void leantWhats() {
        elements("44: leant", 0, 2, what -> of(FOUR).leant(what));
        elements("44: leant without heads", 0, 2, what -> new AlmondCabinet().leant(what));
        AlmondCabinet none = new AlmondCabinet();
        due("44: how many", none.leant(0), 0);
        due("44: the first", none.leant(1), NONE);
        due("44: without", none.leant(2), 1);
        none.see(0, 0, true);
        due("44: not without", none.leant(2), 0);
    }

    /** "LEANS (-8 to 8, another one than it has)"; "the first (100 by the HEAD, and LEAN and 8)" */
    private static void leantFromTo() {
        AlmondCabinet x = of(GROWS);
        due("44: sixteen others", x.leant(0), 16);
        due("44: from -8", x.leant(1), 0);
        x.see(0, 1, false);
        due("44: only 8 falls at once", x.leant(0), 1);
        due("44: to 8", x.leant(1), 16);
        AlmondCabinet left = of("head 99 0 1;melts 0;leans 0-1;");
        left.see(0, 1, false);
        due("44: only -8 falls at once", left.leant(0), 1);
        due("44: -8 and 8", left.leant(1), 0);
        AlmondCabinet eight = of("head 1 0 1;".repeat(7) + "head 99 0 1;melts (sugar=1);leans (0<day);", 1);
        due("44: the eighth alone stands", eight.count(3), 128);
        eight.see(0, 1, false);
        due("44: 100 by 7, and 16", eight.leant(1), 716);
        due("44: eight heads, all leans", of("head 99 0 1;".repeat(8)).leant(0), 128);
    }

    private static void leantNotItsOwn() {
        for (int lean = -8; lean <= 8; lean++) {
            AlmondCabinet x = leaning(lean);
            due("44: others than " + lean, x.leant(0), 16);
            due("44: the first other than " + lean, x.leant(1), lean == -8 ? 1 : 0);
        }
        AlmondCabinet own = of(GROWS, 8);
        own.see(0, 1, false);
        due("44: its own 8 doesn't count", own.leant(0), 0);
        due("44: no first", own.leant(1), NONE);
        due("44: it is so without", own.leant(2), 1);
    }

    /** "HEADS who stand" */
    private static void leantOfWhoStands() {
        AlmondCabinet x = leaning(new int[] {1, 1, 1}, -9, 0, 9);
        due("44: one of three stands", x.leant(0), 16);
        due("44: it is the first", x.leant(1), 100);
        AlmondCabinet none = leaning(9);
        due("44: nobody stands", none.leant(0), 0);
        due("44: none", none.leant(1), NONE);
        due("44: so without", none.leant(2), 1);
    }

    /** "by one of which now all SEEN would be so" */
    private static void leantAllSeen() {
        AlmondCabinet x = of(GROWS);
        for (int days = 0; days < 7; days++) {
            x.see(0, days, true);
            due("44: who stands behind " + days, x.leant(0), days == 0 ? 16 : 16 - days);
        }
        due("44: so without", x.leant(2), 1);
        x.see(0, 7, false);
        due("44: by lean 2 alone", x.leant(0), 1);
        due("44: that is 10", x.leant(1), 10);
        due("44: but not without", x.leant(2), 0);
        AlmondCabinet against = of(GROWS);
        against.see(0, 0, true);
        against.see(0, 0, false);
        due("44: never both", against.leant(0), 0);
        due("44: nor without", against.leant(2), 0);
        AlmondCabinet question = of(GROWS);
        question.see(5, 20, false);
        due("44: the last question, the last day", question.leant(0), 16);
        question.see(5, 20, true);
        due("44: can't pass", question.leant(0), 0);
    }

    /** "behind so many DAYS": counted from now, also when days have gone by since. */
    private static void leantBehindDays() {
        AlmondCabinet x = of("head 99 0 1;melts 0;leans (day=20)*3;");
        x.see(0, 20, false);
        due("44: lean 6 to 8 fall on the 21st day only", x.leant(0), 0);
        x.days(1);
        due("44: that is the 20th now", x.leant(0), 3);
        due("44: the first is 6", x.leant(1), 14);
        AlmondCabinet now = of("marbled 99 0 1 0;melts 0;leans 0;");
        now.see(0, 0, false);
        due("44: behind 0 days, by lean below 0", now.leant(0), 8);
        due("44: not without", now.leant(2), 0);
    }

    /** "whether it is so without (1)": as it is behind each of these days, by the heat of each. */
    private static void leantWithout() {
        for (int days = 0; days <= 20; days++) {
            int passed = of(FOUR).later(days, 1);
            for (int question = 0; question <= 5; question++) {
                AlmondCabinet x = of(FOUR);
                boolean passes = (passed >> question & 1) == 1;
                x.see(question, days, passes);
                due("44: so without, behind " + days, x.leant(2), 1);
                x.see(question, days, !passes);
                due("44: and not so, behind " + days, x.leant(2), 0);
            }
        }
        AlmondCabinet now = of("head 5 0 1;melts 20;leans 0;");
        now.see(0, 0, true);
        due("44: now, though not behind 1", now.leant(2), 1);
        now.see(0, 1, false);
        due("44: both", now.leant(2), 1);
    }

    // ---- look

    private static void lookWhats() {
        elements("45: look", 0, 1, what -> of(FOUR).look(what));
        elements("45: look without heads", 0, 1, what -> new AlmondCabinet().look(what));
    }

    /** "behind how many DAYS (1 to 20 ..) PASSED by these would be most unlike" */
    private static void lookOneToTwenty() {
        AlmondCabinet x = of("head 99 0 1;melts 0;leans (day=19)*3;");
        due("45: unlike behind 20", x.look(0), 20);
        due("45: two", x.look(1), 2);
        AlmondCabinet later = of("head 99 0 1;melts 0;leans (day=20)*3;");
        due("45: unlike behind 21", later.look(0), 1);
        due("45: that is too late", later.look(1), 1);
        AlmondCabinet now = of("marbled 5 0 1 0;melts 20;leans 0;");
        due("45: unlike behind 0", now.look(0), 1);
        due("45: that is too soon", now.look(1), 1);
        AlmondCabinet first = of("head 99 0 1;melts 0;leans (day=0)*3;");
        due("45: unlike behind 1", first.look(0), 1);
        due("45: two, at once", first.look(1), 2);
        AlmondCabinet left = of("head 99 0 1;melts 0;leans 0-(day=0);");
        due("45: -8 alone is unlike", left.look(1), 2);
        AlmondCabinet eight = of("head 1 0 1;".repeat(7) + "head 99 0 1;melts (sugar=1);leans (day=1);", 1);
        due("45: the eighth's 8 alone is unlike", eight.look(1), 2);
        AlmondCabinet heat = of("head 99 0 1;heat 0 0 0 9;melts 0;leans (heat=9)*3;");
        due("45: by the heat of each day", heat.look(0), 4);
    }

    /** "(.. of like ones the first)"; "how many unlike ones" */
    private static void lookOfLikeOnes() {
        AlmondCabinet x = of("head 99 0 1;melts 0;leans (day=4)*3;");
        due("45: from the fifth on", x.look(0), 5);
        due("45: two", x.look(1), 2);
        AlmondCabinet most = of("head 99 0 1;head 99 1 2;head 99 2 4;melts 0;leans (day=2)*3;");
        due("45: as many as there are", most.look(1), 4);
        due("45: the first with as many", most.look(0), 1);
        AlmondCabinet seen = of(GROWS);
        seen.see(0, 7, true);
        due("45: by these alone", seen.look(0), 8);
        seen.see(0, 8, false);
        due("45: one is left", seen.leant(0), 1);
        due("45: unlike nobody", seen.look(1), 1);
        due("45: on the first day", seen.look(0), 1);
    }

    /** "none without any" */
    private static void lookWithoutAny() {
        AlmondCabinet x = of(GROWS);
        x.see(1, 0, true);
        due("45: nothing is so", x.look(0), NONE);
        due("45: 0", x.look(1), 0);
        AlmondCabinet fallen = leaning(9);
        due("45: nobody stands", fallen.look(0), NONE);
        due("45: 0, too", fallen.look(1), 0);
        due("45: no heads", new AlmondCabinet().look(0), NONE);
        due("45: 0 without heads", new AlmondCabinet().look(1), 0);
    }

    // ---- games

    /** "NoSuchElementException: also another what. IllegalArgumentException (behind that): both are one." */
    private static void gameNumbers() {
        elements("47: head", 0, 2, head -> of(FOUR).game(head == 3 ? 4 : head, 3, 0, 0));
        elements("47: other", 1, 3, other -> of(FOUR).game(0, other == 0 ? -1 : other, 0, 0));
        elements("47: question", 0, 5, question -> of(FOUR).game(0, 1, question, 0));
        elements("47: what", 0, 1, what -> of(FOUR).game(0, 1, 0, what));
        for (int head = 0; head < 4; head++) {
            int one = head;
            badArgument("47: both are " + one, () -> of(FOUR).game(one, one, 0, 0));
            noElement("47: what ahead of both " + one, () -> of(FOUR).game(one, one, 0, 2));
            noElement("47: question ahead of both " + one, () -> of(FOUR).game(one, one, 6, 0));
        }
        noElement("47: both are none", () -> of(FOUR).game(4, 4, 0, 0));
        noElement("47: without heads", () -> new AlmondCabinet().game(0, 0, 0, 0));
    }

    /** "NONE for both, if one has FALLEN" */
    private static void gameOfTheFallen() {
        AlmondCabinet x = leaning(-9, 0, 0);
        for (int what = 0; what <= 1; what++) {
            due("47: the first has fallen", x.game(0, 1, 0, what), NONE);
            due("47: the other one has fallen", x.game(1, 0, 0, what), NONE);
        }
        due("47: both stand", x.game(1, 2, 0, 0), 1);
        badArgument("47: both are one, and fallen", () -> x.game(0, 0, 0, 0));
        AlmondCabinet both = leaning(-9, 9, 0);
        due("47: both have fallen", both.game(0, 1, 0, 0), NONE);
    }

    /** "A couple RESTS, if neither gains more by the other choice: how many; the first" */
    private static void gameCouples() {
        due("47: against what doesn't pass", of("head 9 0 0;head 9 0 0;").game(0, 1, 0, 1), 0);
        due("47: for what passes", of("head 9 0 1;head 9 0 1;").game(0, 1, 0, 1), 0);
        due("47: a tie, the first one turns", of("head 9 0 1;head 9 0 0;").game(0, 1, 0, 1), 10);
        due("47: a tie, the other one turns", of("head 9 0 0;head 9 0 1;").game(0, 1, 0, 1), 1);
        AlmondCabinet lost = of("head 9 0 1;head 9 0 1;" + "head 9 0 0;".repeat(6));
        due("47: both turn to what turns out", lost.game(0, 1, 0, 1), 11);
        due("47: one couple", lost.game(0, 1, 0, 0), 1);
        AlmondCabinet both = of("head 9 0 1;head 9 0 1;");
        due("47: neither turns, or both do", both.game(0, 1, 0, 0), 2);
        due("47: the first of the two", both.game(0, 1, 0, 1), 0);
        AlmondCabinet third = of("head 9 0 0;head 9 0 0;head 9 0 1;");
        due("47: neither turns, or both do to pass it", third.game(0, 1, 0, 0), 2);
        due("47: the first of these", third.game(0, 1, 0, 1), 0);
        AlmondCabinet follows = leaning(new int[] {0, 1}, 5, 0);
        due("47: who votes as the other one turns to it", follows.game(0, 1, 0, 1), 10);
        leavesAll("47: a game", Checks::busy, NO_STATUS, x -> x.game(0, 1, 0, 0));
    }

    /** "each is TURNED on it now, or not (1, 0)": all couples of three or four heads, turned by acts. */
    private static void gameByTurning() {
        int[][] leans = {{0, 0, 0}, {5, 0, 0}, {0, 5, -5}, {0, 0, 0, 0}, {5, 0, -5, 0}};
        for (int[] its : leans) {
            for (int opinions = 0; opinions < 1 << its.length; opinions++) {
                int[] each = new int[its.length];
                for (int head = 0; head < its.length; head++) {
                    each[head] = opinions >> head & 1;
                }
                AlmondCabinet x = leaning(each, its);
                due("47: couples that rest", x.game(0, 1, 0, 0), resting(x, 0, 1, 0));
                due("47: the first couple", x.game(0, 1, 0, 1), resting(x, 0, 1, 1));
                due("47: couples of the last two", x.game(its.length - 1, 1, 0, 0), resting(x, its.length - 1, 1, 0));
            }
        }
    }

    private static int resting(AlmondCabinet x, int head, int other, int what) {
        int many = 0;
        int first = NONE;
        for (int mine = 0; mine <= 1; mine++) {
            for (int theirs = 0; theirs <= 1; theirs++) {
                boolean mineRests = gain(x, head, other, mine, theirs) >= gain(x, head, other, 1 - mine, theirs);
                boolean theirsRests = gain(x, other, head, theirs, mine) >= gain(x, other, head, 1 - theirs, mine);
                if (mineRests && theirsRests) {
                    many++;
                    first = first == NONE ? 10 * mine + theirs : first;
                }
            }
        }
        return what == 0 ? many : first;
    }

    private static int gain(AlmondCabinet x, int head, int other, int mine, int theirs) {
        if (mine == 1) {
            x.turn(head, 0);
        }
        if (theirs == 1) {
            x.turn(other, 0);
        }
        boolean asItWants = (x.count(4) & 1) == (x.head(head, 6) & 1);
        for (int turned = mine + theirs; turned > 0; turned--) {
            x.undo();
        }
        return (asItWants ? 5 : 0) - mine;
    }

    // ---- years

    private static int nextSeed(int seed) {
        return seed * 1103515245 + 12345;
    }

    private static int drawn(int seed, int many) {
        return (seed >>> 16 & 0x7fff) % many;
    }

    /** A seed by which one day of one head brings this act; its heat is of no matter where melts and leans are rules. */
    private static int seedFor(int act) {
        for (int seed = 0; seed < 1000; seed++) {
            if (drawn(nextSeed(nextSeed(nextSeed(seed))), 5) == act) {
                return seed;
            }
        }
        throw new IllegalStateException("no seed for " + act);
    }

    /** "n DAYS (0 to 40)"; "NoSuchElementException: another what. IllegalArgumentException (behind that): n." */
    private static void yearsNumbers() {
        arguments("48: n", 0, 40, n -> of(FOUR).years(7, n, 0));
        arguments("48: n without heads", 0, 40, n -> new AlmondCabinet().years(7, n, 0));
        elements("48: what", 0, 2, what -> of(FOUR).years(7, 40, what));
        noElement("48: what ahead of n", () -> of(FOUR).years(7, 41, 3));
        noElement("48: what ahead of n below 0", () -> of(FOUR).years(7, -1, -1));
        for (int seed : new int[] {FEW, -1, 0, 1, MANY}) {
            AlmondCabinet x = of("head 9 0 3;head 8 0 3;head 7 0 0;");
            due("48: no day, who stands", x.years(seed, 0, 0), 7);
            due("48: no day, sugar", x.years(seed, 0, 1), 24);
            due("48: no day, questions", x.years(seed, 0, 2), 2);
        }
    }

    /** "HEAT of each is a DRAW of 10": of the rules, of who has none, and not the cabinet's. */
    private static void yearsHeat() {
        for (int seed = 0; seed < 60; seed++) {
            int heat = drawn(nextSeed(seed), 10);
            int act = drawn(nextSeed(nextSeed(nextSeed(seed))), 5);
            int sugar = act == 0 ? 59 : act == 2 ? 41 : 50;
            due("48: melts heat", of("head 50 0 0;heat 1;melts heat;").years(seed, 1, 1), sugar - heat);
            due("48: heat less almond", of("head 50 3 0;heat 1;").years(seed, 1, 1), sugar - Math.max(0, heat - 3));
            AlmondCabinet leans = of("head 50 0 0;heat 1;melts 0;leans (heat=9)*3+lean;");
            due("48: leans by heat", leans.years(seed, 40, 0), leansOn(seed) ? 1 : 0);
        }
        AlmondCabinet day = of("head 99 0 0;melts (day=7)*20;leans 0;", 7);
        int seed = seedFor(4);
        due("48: the day goes on from now", day.years(seed, 1, 1), 79);
    }

    /** Whether the head of yearsHeat stands behind 40 days of this seed. */
    private static boolean leansOn(int start) {
        int seed = start;
        int lean = 0;
        int sugar = 50;
        boolean stands = true;
        for (int day = 0; day < 40; day++) {
            seed = nextSeed(seed);
            int heat = drawn(seed, 10);
            seed = nextSeed(nextSeed(seed));
            int act = drawn(seed, 5);
            if (act == 0) {
                sugar = Math.min(99, sugar + 9);
                lean = stands ? lean : 0;
                stands = true;
            } else if (act == 1 && stands) {
                lean = 0;
            } else if (act == 2 && stands && sugar > 9) {
                sugar -= 9;
            }
            if (stands) {
                lean = Math.min(9, lean + Math.min(3, (heat == 9 ? 3 : 0) + lean));
                stands = lean < 9;
            }
        }
        return stands;
    }

    /** "0 that one is CAST by 9" */
    private static void yearsCast() {
        int seed = seedFor(0);
        due("48: 9 more", of("head 50 0 0;melts 0;leans 0;").years(seed, 1, 1), 59);
        due("48: 90 and 9", of("head 90 0 0;melts 0;leans 0;").years(seed, 1, 1), 99);
        due("48: 91 and 9", of("head 91 0 0;melts 0;leans 0;").years(seed, 1, 1), 99);
        due("48: one who has fallen stands", leaning(9).years(seed, 1, 0), 1);
        due("48: from none to 9", of("head 1 0 0;melts (sugar=1);leans 0;", 1).years(seed, 1, 1), 9);
        due("48: who stands leans on", of("head 50 0 0;melts 0;leans 3;", 2).years(seed, 1, 0), 0);
    }

    /** "1 PROPPED, if it stands" */
    private static void yearsPropped() {
        int seed = seedFor(1);
        due("48: would fall else", of("head 50 0 0;melts 0;leans 3;", 2).years(seed, 1, 0), 1);
        due("48: fallen", leaning(9).years(seed, 1, 0), 0);
        due("48: sugar stays", of("head 50 0 0;melts 0;leans 0;").years(seed, 1, 1), 50);
    }

    /** "2 LICKED by 9, if it stands and has more" */
    private static void yearsLicked() {
        int seed = seedFor(2);
        due("48: 10 has more", of("head 10 0 0;melts 0;leans 0;").years(seed, 1, 1), 1);
        due("48: 9 has not", of("head 9 0 0;melts 0;leans 0;").years(seed, 1, 1), 9);
        due("48: 1 has not", of("head 1 0 0;melts 0;leans 0;").years(seed, 1, 1), 1);
        due("48: fallen", leaning(9).years(seed, 1, 1), 99);
    }

    private static void yearsLetBe() {
        for (int act = 3; act <= 4; act++) {
            int seed = seedFor(act);
            due("48: sugar stays", of("head 50 0 0;melts 0;leans 0;").years(seed, 1, 1), 50);
            due("48: who leans falls", of("head 50 0 0;melts 0;leans 3;", 2).years(seed, 1, 0), 0);
            due("48: fallen", leaning(9).years(seed, 1, 0), 0);
        }
        AlmondCabinet marbled = of("marbled 99 0 1 6;melts 0;leans 0-(day=0);");
        due("48: questions at the end", marbled.years(seedFor(3), 1, 2), 2);
        due("48: questions now", marbled.years(seedFor(3), 0, 2), 1);
    }

    /** "(Without HEADS just DRAWS of 10 are made.)" */
    private static void yearsWithoutHeads() {
        for (int what = 0; what <= 2; what++) {
            due("48: without heads, " + what, new AlmondCabinet().years(1, 40, what), 0);
            due("48: but with rules, " + what, of("heat 9;melts 20;leans 3;").years(FEW, 40, what), 0);
        }
    }

    /** "(an int that wraps); a DRAW of n is its bits 16 to 30 MOD n" */
    private static void drawsWrap() {
        for (int heads = 1; heads <= 8; heads++) {
            for (int seed : new int[] {FEW, FEW + 1, -12345, -1, 0, 1, 65535, 65536, MANY - 1, MANY}) {
                int state = nextSeed(nextSeed(seed));
                int head = drawn(state, heads);
                int act = drawn(nextSeed(state), 5);
                int all = 50 * heads + (act == 0 ? 9 : act == 2 ? -9 : 0);
                String text = "head 50 0 0;".repeat(heads) + "melts 0;leans 0;";
                due("48: " + heads + " heads, seed " + seed, of(text).years(seed, 1, 1), all);
                AlmondCabinet low = of("head 9 0 0;".repeat(heads) + "melts 9;leans 0;");
                due("48: which of " + heads + ", seed " + seed, low.years(seed, 1, 0), act == 0 ? 1 << head : 0);
            }
        }
    }

    // ---- what is kept

    /** "STATUS: how many calls were refused: 0 TEXTS with a FAULT, 1 ACTS, 2 what is SEEN" */
    private static void statusCounts() {
        AlmondCabinet x = of(FOUR);
        feedText(x, "x");
        x.cabinet(1);
        x.days(0);
        x.prop(0);
        x.cast(0, 0);
        x.lick(0, 0);
        x.change(0, 0);
        x.see(0, 21, true);
        x.see(0, -1, true);
        due("5: texts", x.count(STATUS_TEXTS), 1);
        due("5: acts", x.count(STATUS_ACTS), 5);
        due("5: seen", x.count(STATUS_SEEN), 2);
        noElement("5: thrown", () -> x.cast(4, 0));
        badArgument("5: thrown, too", () -> x.cabinet(-1));
        x.undo();
        x.restore();
        x.forget();
        due("5: texts stay", x.count(STATUS_TEXTS), 1);
        due("5: acts stay", x.count(STATUS_ACTS), 5);
        due("5: seen stay", x.count(STATUS_SEEN), 2);
    }

    /** "False: there is none."; an image of a new object */
    private static void imageOfNothing() {
        AlmondCabinet x = new AlmondCabinet();
        due("50: none", x.restore(), false);
        leavesAll("50: restore of none", () -> of(FOUR, 2), NO_STATUS, y -> y.restore());
        x.image();
        x.days(3);
        x.days(0);
        x.see(0, 0, true);
        due("50: of nothing", x.restore(), true);
        due("50: day 0", x.count(1), 0);
        due("50: no act", x.count(6), 0);
        due("50: nothing seen", x.count(7), 0);
        due("50: nothing refused", x.count(STATUS_ACTS), 0);
    }

    /** "AN IMAGE keeps all that DAYS and ACTS change, ACTS that are kept, what is SEEN, STATUS." */
    private static void imageKeeps() {
        leavesAll("50: to and fro", () -> {
            AlmondCabinet y = busy();
            y.image();
            return y;
        }, NO_STATUS, y -> {
            y.days(20);
            y.cast(2, 50);
            y.lick(0, 1);
            y.turn(1, 1);
            y.change(1, 2);
            y.prop(0);
            y.undo();
            y.days(0);
            y.see(0, 21, true);
            y.see(1, 1, true);
            y.forget();
            y.see(2, 2, false);
            y.restore();
        });
        leavesAll("49: an image again", () -> {
            AlmondCabinet y = busy();
            y.image();
            return y;
        }, NO_STATUS, y -> y.image());
        AlmondCabinet acts = of("head 99 0 0;heat 0;");
        for (int k = 0; k < 45; k++) {
            acts.days(1);
        }
        acts.image();
        for (int k = 0; k < 45; k++) {
            acts.turn(0, k % 6);
        }
        due("50: with forty acts", acts.restore(), true);
        due("50: day 45", acts.count(1), 45);
        for (int left = 39; left >= 0; left--) {
            due("50: undone", acts.undo(), left);
            due("50: day by day", acts.count(1), 5 + left);
        }
        due("50: no more", acts.undo(), NONE);
        due("50: and again", acts.restore(), true);
        due("50: forty once more", acts.count(6), 40);
        AlmondCabinet tape = of(FOUR);
        tape.image();
        feedText(tape, "x");
        due("50: restored", tape.restore(), true);
        due("50: the tape is not of it", tape.count(8), 20);
        due("50: a restore is no act", tape.count(6), 0);
    }

    /** "AN IMAGE is kept, in place of another one." */
    private static void imageInPlace() {
        AlmondCabinet x = of(FOUR);
        x.image();
        x.days(1);
        x.image();
        x.days(1);
        due("50: the later one", x.restore(), true);
        due("50: day 1", x.count(1), 1);
        x.days(5);
        due("50: as often as one likes", x.restore(), true);
        due("50: day 1 again", x.count(1), 1);
    }

    /** "ACTS, what is SEEN, the image are gone" with a cabinet; behind a fault, or a throw, they are not. */
    private static void imageGone() {
        AlmondCabinet x = of(FOUR);
        x.days(2);
        x.image();
        x.days(2);
        badArgument("3: refused", () -> x.cabinet(1));
        feedText(x, "head 0 0 0;");
        due("3: a fault", x.cabinet(11), 2);
        due("50: it is there", x.restore(), true);
        due("50: day 2", x.count(1), 2);
        x.cabinet(0);
        due("50: gone", x.restore(), false);
    }

    /** What is asked of what is seen, games and years leaves all as it was. */
    private static void askingLeavesAll() {
        leavesAll("44: leant", Checks::busy, NO_STATUS, x -> x.leant(1));
        leavesAll("44: leant refused", Checks::busy, NO_STATUS, x -> x.leant(3));
        leavesAll("45: look", Checks::busy, NO_STATUS, x -> x.look(1));
        leavesAll("45: look refused", Checks::busy, NO_STATUS, x -> x.look(2));
        leavesAll("47: game refused", Checks::busy, NO_STATUS, x -> x.game(0, 0, 0, 0));
        leavesAll("48: years", Checks::busy, NO_STATUS, x -> x.years(5, 40, 0));
        leavesAll("48: years refused", Checks::busy, NO_STATUS, x -> x.years(5, 41, 0));
    }
}
