/** One group of checks for each promise of the document: ordinary inputs, edges, wrong inputs. */
public final class PromiseTest extends Checks {
    public static void main(String[] args) {
        readme();
        newObject();
        feed();
        cabinet();
        grammar();
        tooMuch();
        values();
        twice();
        count();
        headAndSeat();
        dayMelts();
        dayLeans();
        dayFalls();
        days();
        prop();
        cast();
        lick();
        turn();
        change();
        undo();
        thenAndLater();
        fallsDownLast();
        tips();
        votes();
        decisive();
        toTurn();
        brings();
        agreeAndParty();
        rooms();
        better();
        sugarAhead();
        toCast();
        marginAgreedTies();
        factionsAndWins();
        middleNeighbourBetween();
        see();
        leant();
        look();
        game();
        years();
        image();
        end("promises");
    }

    /** README.md's lines of a text, and its example. */
    private static void readme() {
        sound("head 30 2 3;\nmarbled 20 1 5 6;\nheat 6 3;\nmelts heat-almond+(60<sugar);\nleans (left<right)*2-1;\n");
        AlmondCabinet x = new AlmondCabinet();
        x.feed(0x68656164, 0x20333020, 0x3220333b, 0x68656164, 0x20352039);
        x.feed(0x20313b20, 0x20202020, 0x20202020, 0x20202020, 0x20202020);
        due("README, cabinet", x.cabinet(23), 0);
        due("README, days", x.days(3), 3);
        due("README, count", x.count(3), 3);
        due("README, falls", x.falls(0), 12);
        due("README, undo", x.undo(), 0);
    }

    private static void newObject() {
        AlmondCabinet x = new AlmondCabinet();
        int[] counts = {0, 0, 4, 0, 0, 0, 0, 0, 0, 0, 0, 0};
        for (int what = 0; what < counts.length; what++) {
            due("1: count(" + what + ")", x.count(what), counts[what]);
        }
        due("1: NONE", AlmondCabinet.NONE, -1);
        due("1: fault", x.fault(), -1);
        due("1: agreed", x.agreed(), 63);
        due("1: ties", x.ties(), 63);
        due("1: restore", x.restore(), false);
        due("1: undo", x.undo(), -1);
        noElement("1: head", () -> x.head(0, 0));
        noElement("1: seat", () -> x.seat(0));
    }

    private static void feed() {
        AlmondCabinet x = new AlmondCabinet();
        for (int k = 1; k <= 35; k++) {
            due("2: feed " + k, x.feed(0x20202020, 0x20202020, 0x20202020, 0x20202020, 0x20202020), 20 * k);
        }
        due("2: feed above 700", x.feed(0, 0, 0, 0, 0), -1);
        due("2: tape", x.count(8), 700);
        due("2: blanks are a cabinet", x.cabinet(700), 0);
        due("2: the tape is empty", x.count(8), 0);
        due("2: bytes above 127", x.feed(-1, FEW, 0, 1, 2), 20);
        due("2: the highest byte comes first", x.cabinet(20), 1);
        due("2: place", x.fault(), 0);
        x.feed(0x20202020, 0x200a2020, 0x20202041, 0x20202020, 0x20202020);
        due("2: none in the middle", x.cabinet(20), 1);
        due("2: its place", x.fault(), 11);
    }

    private static void cabinet() {
        AlmondCabinet x = of(FOUR);
        due("3: heads", x.count(0), 4);
        due("3: fault", x.fault(), -1);
        badArgument("3: the tape is empty", () -> x.cabinet(1));
        badArgument("3: below 0", () -> x.cabinet(-1));
        badArgument("3: least", () -> x.cabinet(FEW));
        due("3: nothing changes", x.count(0), 4);
        x.days(3);
        x.see(0, 0, true);
        x.image();
        feedText(x, "head 1 1 1;head");
        due("3: too short", x.cabinet(15), 1);
        due("4: at its length", x.fault(), 15);
        due("3: the tape is empty then", x.count(8), 0);
        due("3: heads stay", x.count(0), 4);
        due("3: the day stays", x.count(1), 3);
        due("3: acts stay", x.count(6), 1);
        due("3: seen stays", x.count(7), 1);
        due("3: status", x.count(9), 1);
        badArgument("3: too many", () -> x.cabinet(1));
        due("4: stays then", x.fault(), 15);
        due("3: the image stays", x.restore(), true);
        x.days(0);
        feedText(x, "head 1 1 1;head");
        due("3: only the first bytes", x.cabinet(11), 0);
        due("4: none", x.fault(), -1);
        due("3: one head", x.count(0), 1);
        due("3: day 0", x.count(1), 0);
        due("3: heat as without", x.count(2), 4);
        due("3: acts are gone", x.count(6), 0);
        due("3: seen is gone", x.count(7), 0);
        due("3: the image is gone", x.restore(), false);
        due("3: refused acts stay counted", x.count(10), 1);
        feedText(x, "heat 7;melts 1;leans 2;marbled 5 5 5 6;");
        due("3: another one", x.cabinet(39), 0);
        due("3: no text at all", x.cabinet(0), 0);
        feedText(x, "head 90 1 0;head 90 2 0;");
        due("3: without heat and rules", x.cabinet(24), 0);
        due("3: heat is gone", x.count(2), 4);
        due("3: marbled is gone", x.head(0, 5), 0);
        due("3: melts is gone", x.then(0, 1, 0), 87);
        due("3: leans is gone", x.then(0, 1, 1), 0);
        feedText(x, "melts 1;leans 2;heat 7;");
        due("3: they may come again", x.cabinet(23), 0);
        x.cabinet(0);
        due("3: no heads", x.count(0), 0);
    }

    private static void grammar() {
        fault("", 0, -1);
        fault(" \n ", 0, -1);
        fault("head30 2 3;", 0, -1);
        fault("head 30\n2\n3\n;", 0, -1);
        fault("head 0030 02 03;", 0, -1);
        fault("x", 1, 0);
        fault("headx 1 1 1;", 1, 0);
        fault("Head 1 1 1;", 1, 0);
        fault(";", 1, 0);
        fault("5;", 1, 0);
        fault("\thead 1 1 1;", 1, 0);
        fault("  head 1 1;", 1, 10);
        fault("head 1 1 1 1;", 1, 11);
        fault("head 1 1 1 12345;", 1, 11);
        fault("marbled 1 1 1;", 1, 13);
        fault("marbled 1 1 1 1;", 0, -1);
        fault("head 1 1 1", 1, 10);
        fault("head 1 1 1  ", 1, 12);
        fault("head 1 -1 1;", 1, 7);
        fault("heat;", 1, 4);
        fault("heat ", 1, 5);
        fault("heat 1,2;", 1, 6);
        fault("heat 1 2 3 4 5 6 7 8;", 0, -1);
        fault("melts;", 1, 5);
        fault("melts 1 2;", 1, 8);
        fault("melts 1 sugar;", 1, 8);
        fault("melts 1<2<3;", 1, 9);
        fault("melts 1=2<3;", 1, 9);
        fault("melts (1<2)<3;", 0, -1);
        fault("melts 1+;", 1, 8);
        fault("melts -1;", 1, 6);
        fault("melts (1;", 1, 8);
        fault("melts 1);", 1, 7);
        fault("melts ();", 1, 7);
        fault("melts 1 > 2;", 1, 8);
        fault("melts 1 or", 1, 10);
        fault("melts 9999 or 0 and not not 1 < 2 + 3 * (4 - 5) / 6;", 0, -1);
    }

    private static void tooMuch() {
        fault("head 0 1 1;", 2, 5);
        fault("head 100 1 1;", 2, 5);
        fault("head 99 9 63;", 0, -1);
        fault("head 1 10 1;", 2, 7);
        fault("head 1 1 64;", 2, 9);
        fault("marbled 1 1 63 64;", 2, 15);
        fault("head 00001 1 1;", 2, 5);
        fault("heat 10;", 2, 5);
        fault("heat 1 2 3 4 5 6 7 8 9;", 2, 21);
        String eight = "head 1 1 1;".repeat(8);
        fault(eight, 0, -1);
        fault(eight + "head 1 1 1;", 2, 88);
        fault(eight + "marbled", 2, 88);
        fault(eight + "heat 1;", 0, -1);
        fault("melts 9999;", 0, -1);
        fault("melts 10000;", 2, 6);
        fault("melts 00000;", 2, 6);
        fault("melts 1 10000;", 1, 8);
        fault("melts (((((1)))));", 0, -1);
        fault("melts ((((((1))))));", 2, 12);
        fault("melts ((((((not 1))))));", 2, 12);
        fault("melts ((((((x))))));", 2, 12);
        fault("melts (((((((1)))))));", 2, 12);
        fault("melts (((((()))))); ", 1, 12);
        fault("melts ((((((+1))))));", 1, 12);
        fault("melts ((((((", 1, 12);
        fault("melts not not not not not not 1;", 0, -1);
        fault("melts not not not not not not not 1;", 2, 30);
        fault("melts not not not not not not(not 1);", 0, -1);
        fault("melts not not not not not not 1 and not 1;", 0, -1);
    }

    private static void values() {
        fault("melts sugar+almond+heat+lean+day;", 0, -1);
        fault("leans sugar+almond+heat+lean+day+left+right;", 0, -1);
        fault("melts left;", 3, 6);
        fault("melts 1+right;", 3, 8);
        fault("leans x;", 3, 6);
        fault("leans or;", 3, 6);
        fault("leans 1 or and 2;", 3, 11);
        fault("leans 1+not 2;", 3, 8);
        fault("leans 1<not 2;", 3, 8);
        fault("leans head;", 3, 6);
        fault("leans not head;", 3, 10);
        fault("leans (leans);", 3, 7);
    }

    private static void twice() {
        fault("heat 1;heat 2;", 5, 7);
        fault("melts 1;leans 1;melts 2;", 5, 16);
        fault("leans 1;leans", 5, 8);
    }

    private static void count() {
        AlmondCabinet x = of(FOUR);
        int[] counts = {4, 0, 6, 15, 0, 110, 0, 0, 0, 0, 0, 0};
        for (int what = 0; what < counts.length; what++) {
            due("5: count(" + what + ")", x.count(what), counts[what]);
        }
        x.days(1);
        x.turn(0, 5);
        x.days(-1);
        x.see(0, 21, true);
        x.see(0, 20, true);
        x.feed(0, 0, 0, 0, 0);
        int[] later = {4, 1, 3, 15, 0, 95, 2, 1, 20, 0, 1, 1};
        for (int what = 0; what < later.length; what++) {
            due("5: later count(" + what + ")", x.count(what), later[what]);
        }
        noElement("5: 12", () -> x.count(12));
        noElement("5: -1", () -> x.count(-1));
        noElement("5: most", () -> x.count(MANY));
    }

    private static void headAndSeat() {
        AlmondCabinet x = of(FOUR);
        int[] one = {20, 1, 0, 1, 1, 1, 5};
        int[] two = {50, 9, 0, 2, 1, 0, 4};
        for (int what = 0; what < one.length; what++) {
            due("6: head(1, " + what + ")", x.head(1, what), one[what]);
            due("6: head(2, " + what + ")", x.head(2, what), two[what]);
        }
        x.change(0, 3);
        due("6: its seat", x.head(0, 3), 3);
        due("7: who is there", x.seat(3), 0);
        due("7: and there", x.seat(0), 3);
        due("7: another one", x.seat(2), 2);
        noElement("6: no such head", () -> x.head(4, 0));
        noElement("6: below 0", () -> x.head(-1, 0));
        noElement("6: no such what", () -> x.head(0, 7));
        noElement("6: what below 0", () -> x.head(0, -1));
        noElement("7: no such seat", () -> x.seat(4));
        noElement("7: below 0", () -> x.seat(-1));
        AlmondCabinet lefty = of("marbled 90 0 5 6;melts 0;leans 0-1;");
        due("6: first part", lefty.head(0, 6), 5);
        lefty.days(1);
        due("6: second part", lefty.head(0, 6), 6);
    }

    private static void dayMelts() {
        AlmondCabinet x = of("head 9 2 0;head 50 9 0;head 2 3 0;heat 6;leans 0;");
        x.days(1);
        due("8: heat less almond", x.head(0, 0), 5);
        due("8: not below 0", x.head(1, 0), 50);
        due("8: not more than there is", x.head(2, 0), 0);
        due("8: who has none has fallen", x.head(2, 4), 0);
        AlmondCabinet most = of("head 99 0 0;melts 100;leans 0;");
        most.days(1);
        due("8: at most 20", most.head(0, 0), 79);
        AlmondCabinet least = of("head 50 0 0;melts 0-5;leans 0;");
        least.days(1);
        due("8: at least 0", least.head(0, 0), 50);
        AlmondCabinet rule = of("head 99 3 0;heat 7 8;melts sugar/50+almond*(day=0)+heat*(day=1)+lean;leans 2;");
        rule.days(1);
        due("8: sugar, almond", rule.head(0, 0), 99 - 1 - 3);
        rule.days(1);
        due("8: heat of the day, lean", rule.head(0, 0), 95 - 1 - 8 - 2);
        AlmondCabinet wraps = of("head 99 0 0;melts 9999*9999*9999/9999/9999;leans 0;");
        int wrapped = 9999 * 9999 * 9999 / 9999 / 9999;
        wraps.days(1);
        due("8: ints that wrap", wraps.head(0, 0), 99 - Math.max(0, Math.min(20, wrapped)));
        AlmondCabinet tests = of("head 99 0 0;leans 0;melts 7/0+7/2+(0-7)/2+(not 5)+(not not 5)*4+(3 and 4)*2+(0 or 9);");
        tests.days(1);
        due("8: by 0, cut to 0, tests", tests.head(0, 0), 99 - (0 + 3 - 3 + 0 + 4 + 2 + 1));
        AlmondCabinet left = of("head 99 0 0;leans 0;melts 9-3-2+12/2/3*2+1-(2<1+2)*3;");
        left.days(1);
        due("8: from the left", left.head(0, 0), 99 - 6);
        AlmondCabinet joins = of("head 99 0 0;leans 0;melts (1 or 0 and 0)+(not 0 and 0)*2+(not 1=2)*4+(5 or 0)*8;");
        joins.days(1);
        due("8: and binds closer than or, not looser than a test", joins.head(0, 0), 99 - 13);
    }

    private static void dayLeans() {
        AlmondCabinet hot = of("head 30 9 0;head 50 9 0;head 40 9 0;heat 5 4;");
        hot.days(2);
        due("8: left less than right", hot.head(0, 2), -1);
        due("8: left less, too", hot.head(1, 2), -1);
        due("8: left more", hot.head(2, 2), 1);
        AlmondCabinet rule = of("head 90 0 0;head 80 0 0;head 70 0 0;melts 0;leans (left=90 and right=70)+(left=0)*9-(right=0)*9;");
        rule.days(1);
        due("8: at most 3", rule.head(0, 2), 3);
        due("8: left and right", rule.head(1, 2), 1);
        due("8: at least -3", rule.head(2, 2), -3);
        AlmondCabinet melted = of("head 10 0 0;head 5 0 0;head 8 0 0;melts 5;leans (left-right)/1;");
        melted.days(1);
        due("8: lean by sugar that is left", melted.head(2, 2), 3);
        due("8: over who has fallen", melted.head(0, 2), -3);
        due("8: lean of who has fallen stays", melted.head(1, 2), 0);
        AlmondCabinet kept = of("head 90 0 0;head 90 0 0;melts 0;leans (almond=0)*(3-day/2*2);");
        kept.days(2);
        due("8: 3 and 3", kept.head(0, 2), 6);
    }

    private static void dayFalls() {
        AlmondCabinet x = of(CHAIN);
        x.days(2);
        int[] leans = {6, 5, 5, 4};
        for (int head = 0; head < 4; head++) {
            due("8: lean of " + head, x.head(head, 2), leans[head]);
        }
        x.days(1);
        due("8: three fall", x.count(3), 8);
        due("8: lean of who has fallen", x.head(1, 2), 9);
        due("8: 2 more", x.head(3, 2), 8);
        due("8: sugar of who has fallen", x.head(0, 0), 90);
        x.days(1);
        due("8: nobody stands", x.count(3), 0);
        AlmondCabinet left = of(CHAIN_LEFT);
        left.days(3);
        due("8: three fall to the left", left.count(3), 1);
        due("8: 2 less", left.head(0, 2), -8);
        AlmondCabinet against = of("head 90 0 0;head 90 1 0;melts 0;leans 3*(almond=0)-3*(almond=1);");
        against.days(3);
        due("8: who is held up by the first", against.count(3), 2);
        due("8: lean held up", against.head(1, 2), -7);
        AlmondCabinet apart = of("head 90 1 0;head 90 0 0;melts 0;leans 3*(almond=0)-3*(almond=1);");
        apart.days(3);
        due("8: both fall apart", apart.count(3), 0);
        AlmondCabinet seats = of("head 90 0 0;head 90 1 0;melts 0;leans 3*(almond=0)-3*(almond=1);");
        seats.change(0, 1);
        seats.days(3);
        due("8: seat by seat, not head by head", seats.count(3), 0);
        AlmondCabinet both = of("head 90 0 0;head 90 1 0;head 90 2 0;melts 0;leans 3*(almond<2)+2*(almond=2);");
        both.days(3);
        due("8: kept to 9 as it falls", both.head(1, 2), 9);
        due("8: knocked once only", both.head(2, 2), 8);
    }

    private static void days() {
        AlmondCabinet x = of(FOUR);
        due("8: one", x.days(1), 1);
        due("8: twenty", x.days(20), 21);
        due("8: one act each", x.count(6), 2);
        due("8: 0", x.days(0), -1);
        due("8: 21", x.days(21), -1);
        due("8: below 0", x.days(FEW), -1);
        due("8: most", x.days(MANY), -1);
        due("8: refused", x.count(10), 4);
        for (int k = 0; k < 48; k++) {
            x.days(20);
        }
        due("8: near the end", x.count(1), 981);
        due("8: above 999", x.days(19), -1);
        due("8: to 999", x.days(18), 999);
        due("8: no more", x.days(1), -1);
        due("8: heat goes on", x.hottest(2), 1);
        due("8: kept acts", x.count(6), 40);
    }

    private static void prop() {
        AlmondCabinet x = of(CHAIN);
        due("9: lean 0", x.prop(0), false);
        x.days(2);
        due("9: propped", x.prop(0), true);
        due("9: lean", x.head(0, 2), 0);
        due("9: an act", x.count(6), 2);
        due("9: again", x.prop(0), false);
        x.undo();
        x.days(1);
        due("9: fallen", x.prop(1), false);
        due("9: refused", x.count(10), 3);
        due("9: refused is no act", x.count(6), 2);
        noElement("9: no such head", () -> x.prop(4) ? 1 : 0);
        noElement("9: below 0", () -> x.prop(-1) ? 1 : 0);
    }

    private static void cast() {
        AlmondCabinet x = of(CHAIN);
        due("10: 99 at most", x.cast(0, 10), 99);
        due("10: at 99", x.cast(0, 1), 99);
        due("10: acts", x.count(6), 2);
        due("10: 0", x.cast(0, 0), -1);
        due("10: 51", x.cast(0, 51), -1);
        due("10: refused", x.count(10), 2);
        x.days(2);
        x.cast(1, 50);
        due("10: lean of who stands stays", x.head(1, 2), 5);
        x.days(1);
        due("10: fallen", x.head(2, 4), 0);
        due("10: cast anew", x.cast(2, 5), 95);
        due("10: stands again", x.head(2, 4), 1);
        due("10: lean 0", x.head(2, 2), 0);
        AlmondCabinet four = of(FOUR);
        four.days(3);
        due("10: from 0", four.cast(3, 50), 50);
        noElement("10: no such head", () -> x.cast(4, 1));
        noElement("10: ahead of all", () -> x.cast(-1, 0));
    }

    private static void lick() {
        AlmondCabinet x = of(FOUR);
        due("11: 9", x.lick(3, 9), 1);
        due("11: to 0", x.lick(3, 1), -1);
        due("11: 10", x.lick(0, 10), -1);
        due("11: 0", x.lick(0, 0), -1);
        due("11: below 0", x.lick(0, -1), -1);
        due("11: refused", x.count(10), 4);
        due("11: act", x.count(6), 1);
        due("11: 1", x.lick(0, 1), 29);
        AlmondCabinet chain = of(CHAIN);
        chain.days(3);
        due("11: who has fallen", chain.lick(0, 9), 81);
        due("11: doesn't stand by it", chain.head(0, 4), 0);
        noElement("11: no such head", () -> x.lick(4, 1));
        noElement("11: below 0, too", () -> x.lick(-1, 0));
    }

    private static void turn() {
        AlmondCabinet x = of("head 90 0 3;marbled 90 0 5 6;melts 0;leans 0-1;");
        due("12: against", x.turn(0, 0), 2);
        due("12: for", x.turn(0, 5), 34);
        due("12: first part", x.turn(1, 0), 4);
        x.days(1);
        due("12: second part, too", x.head(1, 6), 7);
        due("12: by lean", x.turn(1, 1), 5);
        due("12: acts", x.count(6), 5);
        noElement("12: no such head", () -> x.turn(2, 0));
        noElement("12: no such question", () -> x.turn(0, 6));
        noElement("12: below 0", () -> x.turn(0, -1));
    }

    private static void change() {
        AlmondCabinet x = of(FOUR);
        due("13: change", x.change(1, 3), true);
        due("13: seat 1", x.seat(1), 3);
        due("13: seat 3", x.seat(3), 1);
        due("13: one", x.change(2, 2), false);
        due("13: refused", x.count(10), 1);
        due("13: acts", x.count(6), 1);
        noElement("13: no such head", () -> x.change(4, 0) ? 1 : 0);
        noElement("13: no such other", () -> x.change(0, 4) ? 1 : 0);
        noElement("13: both", () -> x.change(-1, -1) ? 1 : 0);
    }

    private static void undo() {
        AlmondCabinet x = of(CHAIN);
        due("14: none", x.undo(), -1);
        due("14: not counted", x.count(10), 0);
        x.days(4);
        x.cast(2, 9);
        x.turn(1, 3);
        x.change(0, 3);
        x.lick(0, 5);
        x.days(2);
        x.prop(2);
        due("14: acts", x.count(6), 7);
        due("14: prop undone", x.undo(), 6);
        due("14: lean", x.head(2, 2), 4);
        due("14: days undone", x.undo(), 5);
        due("14: day", x.count(1), 4);
        due("14: lick undone", x.undo(), 4);
        due("14: sugar", x.head(0, 0), 90);
        due("14: change undone", x.undo(), 3);
        due("14: seat", x.head(0, 3), 0);
        due("14: turn undone", x.undo(), 2);
        due("14: opinions", x.head(1, 6), 2);
        due("14: cast undone", x.undo(), 1);
        due("14: fallen again", x.head(2, 4), 0);
        due("14: as it leant", x.head(2, 2), 9);
        due("14: all undone", x.undo(), 0);
        due("14: all stand", x.count(3), 15);
        for (int k = 0; k < 45; k++) {
            x.turn(0, k % 6);
        }
        due("14: 40 at most", x.count(6), 40);
        for (int k = 39; k >= 0; k--) {
            due("14: left", x.undo(), k);
        }
        due("14: the oldest are not undone", x.head(0, 6), 1 ^ 31);
        due("14: no more", x.undo(), -1);
    }

    private static void thenAndLater() {
        AlmondCabinet x = of(FOUR);
        due("15: sugar", x.then(0, 3, 0), 21);
        due("15: lean", x.then(0, 3, 1), -2);
        due("15: stands", x.then(3, 2, 2), 1);
        due("15: fallen", x.then(3, 3, 2), 0);
        due("15: now", x.then(3, 0, 0), 10);
        due("15: 40", x.then(2, 40, 0), 50);
        noElement("15: head", () -> x.then(4, 41, 0));
        noElement("15: what", () -> x.then(0, 41, 3));
        noElement("15: what below 0", () -> x.then(0, 0, -1));
        badArgument("15: 41", () -> x.then(0, 41, 0));
        badArgument("15: below 0", () -> x.then(0, -1, 0));
        due("16: standing", x.later(3, 0), 7);
        due("16: passed", x.later(3, 1), 6);
        due("16: now", x.later(0, 0), 15);
        due("16: 40", x.later(40, 0), 4);
        noElement("16: what", () -> x.later(41, 2));
        badArgument("16: 41", () -> x.later(41, 1));
        badArgument("16: below 0", () -> x.later(-1, 0));
        due("15: nothing changes", x.count(1), 0);
        due("15: no act", x.count(6), 0);
    }

    private static void fallsDownLast() {
        AlmondCabinet x = of(FOUR);
        due("17: 3", x.falls(3), 3);
        due("17: 1", x.falls(1), 6);
        due("17: none", x.falls(2), -1);
        noElement("17: head", () -> x.falls(4));
        due("18: third day", x.down(3), 8);
        due("18: second day", x.down(2), 0);
        due("18: last day", x.down(40), 0);
        badArgument("18: 0", () -> x.down(0));
        badArgument("18: 41", () -> x.down(41));
        due("19: who doesn't fall", x.last(), 2);
        x.days(3);
        due("17: has fallen", x.falls(3), 0);
        AlmondCabinet chain = of(CHAIN);
        due("18: the first day", of("head 4 0 0;").down(1), 1);
        due("18: three", chain.down(3), 7);
        due("18: the fourth", chain.down(4), 8);
        due("19: the latest", chain.last(), 3);
        chain.days(4);
        due("19: nobody", chain.last(), -1);
        due("19: on the first day", of("head 9 0 0;head 4 0 0;melts 20;").last(), 0);
        AlmondCabinet like = of("head 8 0 0;head 40 0 0;head 40 0 0;leans 0;");
        due("19: the least of like ones", like.last(), 1);
        AlmondCabinet forty = of("head 40 0 0;head 41 0 0;melts 1;leans 0;");
        due("17: behind 40", forty.falls(0), 40);
        due("17: behind 41", forty.falls(1), -1);
        due("18: on the 40th", forty.down(40), 1);
        due("19: later than any", forty.last(), 1);
    }

    private static void tips() {
        AlmondCabinet x = of(FOUR);
        due("20: passes", x.tips(1), 3);
        due("20: none", x.tips(0), -1);
        noElement("20: question", () -> x.tips(6));
        noElement("20: below 0", () -> x.tips(-1));
        AlmondCabinet two = of("head 8 0 1;head 40 0 0;head 12 0 1;leans 0;");
        due("20: doesn't any more", two.tips(0), 2);
        AlmondCabinet late = of("head 40 9 1;melts 1;leans 0;");
        due("20: behind 40", late.tips(0), 40);
        late.cast(0, 1);
        due("20: not behind 41", late.tips(0), -1);
    }

    private static void votes() {
        AlmondCabinet x = of(FOUR);
        due("21: for", x.votes(0, 0), 3);
        due("21: against", x.votes(0, 1), 12);
        noElement("21: question", () -> x.votes(6, 0));
        noElement("21: what", () -> x.votes(0, 2));
        AlmondCabinet chain = of(CHAIN);
        chain.days(1);
        due("21: by one's own", chain.votes(1, 0), 2);
        chain.days(1);
        due("21: 0 as 1 does", chain.votes(1, 0), 1);
        due("21: 1 as 2 does by opinion", chain.votes(2, 0), 2);
        due("21: 2 as 3, and 3 itself", chain.votes(3, 0), 12);
        due("21: nobody as 0", chain.votes(0, 0), 0);
        chain.days(1);
        due("21: who has fallen doesn't vote", chain.votes(0, 1), 8);
        due("21: one's own without a next one", chain.votes(3, 0), 8);
        AlmondCabinet left = of(CHAIN_LEFT);
        left.days(2);
        due("21: to the left", left.votes(1, 0), 8);
        AlmondCabinet five = of("head 90 0 1;head 90 9 0;melts 0;leans (almond=0)*(1+3*(day=0));");
        five.days(2);
        due("21: lean 4", five.votes(0, 0), 1);
        five.days(1);
        due("21: lean 5", five.votes(0, 0), 0);
    }

    private static void decisive() {
        AlmondCabinet x = of(FOUR);
        due("22: a tie", x.decisive(0), 12);
        due("22: nobody", x.decisive(3), 0);
        noElement("22: question", () -> x.decisive(6));
        AlmondCabinet one = of("head 9 0 1;");
        due("22: alone", one.decisive(0), 1);
        AlmondCabinet leans = of("head 90 0 1;head 90 9 0;head 90 9 1;melts 0;leans (almond=0)*3;");
        leans.days(2);
        due("22: 0 votes as 1 does", leans.votes(0, 0), 4);
        due("22: without 1 it votes as 2 does", leans.decisive(0), 2);
    }

    private static void toTurn() {
        AlmondCabinet x = of(FOUR);
        due("23: one", x.toTurn(0), 4);
        due("23: three", x.toTurn(3), 7);
        noElement("23: question", () -> x.toTurn(-1));
        due("23: none", new AlmondCabinet().toTurn(0), -1);
        AlmondCabinet passes = of("head 9 0 1;head 9 0 1;head 9 0 1;head 9 0 0;");
        due("23: so that it doesn't", passes.toTurn(0), 1);
        AlmondCabinet leans = of("head 90 0 0;head 90 9 0;head 90 9 1;melts 0;leans (almond=0)*3;");
        leans.days(2);
        due("23: who is followed counts twice", leans.toTurn(0), 2);
        leans.days(1);
        due("23: only who stands", leans.toTurn(0), 2);
    }

    private static void brings() {
        AlmondCabinet x = of(CHAIN);
        due("24: alone", x.brings(0, 1), 1);
        x.days(2);
        due("24: too little", x.brings(0, 1), 1);
        x.undo();
        AlmondCabinet all = of("head 90 0 0;head 90 1 0;head 90 2 0;head 90 3 0;melts 0;leans 3*(almond<3)*(day<2)+(almond<3)*(day=2);");
        all.days(3);
        due("24: two more", all.brings(0, 1), 7);
        due("24: one more", all.brings(1, 1), 6);
        due("24: to the left alone", all.brings(2, -1), 4);
        due("24: not the last one", all.brings(2, 1), 4);
        due("24: nothing changes", all.count(3), 15);
        due("32: which", all.worst(1, 0), 0);
        due("32: how many", all.worst(1, 1), 3);
        due("32: to the left", all.worst(-1, 1), 1);
        due("32: the least", all.worst(-1, 0), 0);
        x.days(4);
        due("24: fallen", x.brings(0, 1), 0);
        due("32: nobody", x.worst(1, 0), -1);
        due("32: none", x.worst(1, 1), 0);
        noElement("24: head", () -> x.brings(4, 0));
        badArgument("24: side", () -> x.brings(0, 0));
        badArgument("24: side 2", () -> x.brings(0, 2));
        noElement("32: what", () -> x.worst(0, 2));
        badArgument("32: side", () -> x.worst(0, 1));
    }

    private static void agreeAndParty() {
        AlmondCabinet x = of(FOUR);
        due("25: two", x.agree(0, 1), 4);
        due("25: others", x.agree(2, 3), 5);
        due("25: itself", x.agree(1, 1), 6);
        noElement("25: head", () -> x.agree(4, 0));
        noElement("25: other", () -> x.agree(0, -1));
        due("26: 4", x.party(0, 4), 11);
        due("26: 6", x.party(0, 6), 1);
        due("26: 0", x.party(0, 0), 15);
        noElement("26: head", () -> x.party(4, 7));
        badArgument("26: 7", () -> x.party(0, 7));
        badArgument("26: below 0", () -> x.party(0, -1));
        x.days(3);
        due("26: who has fallen, too", x.party(2, 5), 14);
        due("25: by the second part", x.agree(0, 1), 4);
    }

    private static void rooms() {
        AlmondCabinet x = of(FOUR);
        due("27: by how much", x.rooms(0), 10);
        due("27: who", x.rooms(1), 3);
        noElement("27: what", () -> x.rooms(2));
        noElement("27: below 0", () -> x.rooms(-1));
        AlmondCabinet one = of("head 9 0 0;");
        due("27: one alone", one.rooms(0), 9);
        due("27: the least is nobody", one.rooms(1), 0);
        AlmondCabinet fallen = of("head 4 0 0;head 30 0 0;head 30 0 0;leans 0;");
        fallen.days(1);
        due("27: those who stand", fallen.rooms(0), 0);
        due("27: the least set", fallen.rooms(1), 2);
    }

    private static void better() {
        due("28: none", of(FOUR).better(), -1);
        AlmondCabinet x = of("head 90 0 0;head 90 9 0;head 90 9 1;melts 0;leans (almond=0)*3;");
        x.days(2);
        due("28: passes by none now", x.count(4), 0);
        due("28: who follows another one", x.better(), 1);
        due("28: nothing changes", x.seat(1), 1);
        AlmondCabinet like = of("head 90 9 1;head 90 9 1;head 90 9 0;head 90 0 0;melts 0;leans 0-(almond=0)*3;");
        like.days(2);
        due("28: the first of like ones", like.better(), 2);
        AlmondCabinet far = of("head 90 9 0;head 90 9 0;head 90 9 1;head 90 0 0;head 90 9 1;melts 0;"
                + "leans 0-(almond=0)*3;");
        due("28: nobody leans", far.better(), -1);
        far.days(2);
        due("28: as it votes", far.votes(0, 0), 28);
        far.turn(2, 0);
        due("28: none by 0 and 1", far.votes(0, 0), 16);
        far.turn(1, 0);
        due("28: a tenth by the lesser", far.better(), 12);
    }

    private static void sugarAhead() {
        AlmondCabinet x = of(FOUR);
        due("29: now", x.heaviest(0), 2);
        due("29: later", x.heaviest(40), 2);
        badArgument("29: 41", () -> x.heaviest(41));
        badArgument("29: below 0", () -> x.heaviest(-1));
        due("29: nobody", of("head 4 0 0;").heaviest(1), -1);
        due("29: the least of like ones", of("head 4 0 0;head 9 0 0;head 9 0 0;").heaviest(0), 1);
        AlmondCabinet chain = of(CHAIN);
        chain.cast(0, 9);
        due("29: who stands then", chain.heaviest(3), 3);
        due("30: one", x.melted(1), 15);
        due("30: three", x.melted(3), 31);
        due("30: none", x.melted(0), 0);
        due("30: all that can", x.melted(40), 60);
        badArgument("30: 41", () -> x.melted(41));
        badArgument("30: below 0", () -> x.melted(-1));
        AlmondCabinet heat = of("heat 1 5 2 5;");
        due("31: one", heat.hottest(1), 0);
        due("31: the first of like ones", heat.hottest(40), 1);
        heat.days(2);
        due("31: from now", heat.hottest(4), 1);
        due("31: from now, two", heat.hottest(2), 1);
        heat.days(1);
        due("31: from now, at once", heat.hottest(4), 0);
        AlmondCabinet slope = of("heat 1 2 3 4 5 6 7;");
        slope.days(2);
        due("31: the third on", slope.hottest(4), 3);
        due("31: the last of all", slope.hottest(40), 4);
        badArgument("31: 0", () -> heat.hottest(0));
        badArgument("31: 41", () -> heat.hottest(41));
    }

    private static void toCast() {
        AlmondCabinet x = of(FOUR);
        due("33: 6", x.toCast(3, 3), 6);
        due("33: none is needed", x.toCast(3, 2), 0);
        due("33: now", x.toCast(3, 0), 0);
        noElement("33: head", () -> x.toCast(4, 41));
        badArgument("33: 41", () -> x.toCast(0, 41));
        badArgument("33: below 0", () -> x.toCast(0, -1));
        x.days(3);
        due("33: fallen", x.toCast(3, 0), -1);
        AlmondCabinet far = of("head 10 0 0;melts 3;leans 0;");
        due("33: 50", far.toCast(0, 19), 48);
        due("33: above 50", far.toCast(0, 20), -1);
        AlmondCabinet full = of("head 90 0 0;melts 10;leans 0;");
        due("33: 99 at most", full.toCast(0, 9), 1);
        due("33: above 99", full.toCast(0, 10), -1);
        AlmondCabinet tips = of("head 20 0 0;melts 1;leans 3;");
        due("33: it leans", tips.toCast(0, 3), -1);
    }

    private static void marginAgreedTies() {
        AlmondCabinet x = of(FOUR);
        due("34: a tie", x.margin(0), 0);
        due("34: all against", x.margin(3), -4);
        noElement("34: question", () -> x.margin(6));
        due("34: all for", of("head 9 0 2;head 9 0 2;").margin(1), 2);
        due("35: alike", x.agreed(), 56);
        due("40: ties", x.ties(), 5);
        x.days(3);
        due("35: those who stand", x.agreed(), 56);
        due("40: no ties of three", x.ties(), 0);
        AlmondCabinet chain = of(CHAIN);
        chain.days(4);
        due("35: without any", chain.agreed(), 63);
        due("40: without any", chain.ties(), 63);
        due("34: without any", chain.margin(0), 0);
        chain.undo();
        due("35: by votes", chain.agreed(), 48);
        AlmondCabinet follows = of("head 90 0 1;head 90 9 0;melts 0;leans (almond=0)*3;");
        due("35: before", follows.agreed(), 62);
        follows.days(2);
        due("35: one votes as the other one", follows.agreed(), 63);
        due("41: leaning", follows.leaning(), 1);
        AlmondCabinet leaning = of(CHAIN_LEFT);
        due("41: nobody", leaning.leaning(), 0);
        leaning.days(2);
        due("41: -5 and less", leaning.leaning(), 14);
        leaning.days(1);
        due("41: who stands", leaning.leaning(), 1);
    }

    private static void factionsAndWins() {
        AlmondCabinet x = of(FOUR);
        due("36: all unlike", x.factions(), 4);
        due("36: nobody", new AlmondCabinet().factions(), 0);
        due("36: two", of("head 9 0 63;head 9 0 63;marbled 9 0 0 63;").factions(), 2);
        x.days(3);
        due("36: those who stand", x.factions(), 3);
        due("37: fallen", x.wins(3), 0);
        x.undo();
        due("37: against what doesn't pass", x.wins(0), 60);
        due("37: all", x.wins(3), 63);
        noElement("37: head", () -> x.wins(4));
        AlmondCabinet passes = of("head 9 0 1;head 9 0 3;head 9 0 2;");
        due("37: for what passes", passes.wins(1), 63);
        due("37: against it", passes.wins(0), 61);
        AlmondCabinet follows = of("head 90 0 0;head 90 9 1;head 90 9 1;melts 0;leans (almond=0)*3;");
        due("37: by one's own", follows.wins(0), 62);
        follows.days(2);
        due("37: as the next one", follows.wins(0), 63);
    }

    private static void middleNeighbourBetween() {
        AlmondCabinet x = of(FOUR);
        due("38: left one of two", x.middle(), 1);
        due("38: nobody", new AlmondCabinet().middle(), -1);
        due("38: of three", of("head 9 0 0;head 9 0 0;head 9 0 0;").middle(), 1);
        due("38: of five", of("head 9 0 0;".repeat(5)).middle(), 2);
        due("38: of eight", of("head 9 0 0;".repeat(8)).middle(), 3);
        due("39: right", x.neighbour(0, 1), 1);
        due("39: none", x.neighbour(0, -1), -1);
        due("39: left", x.neighbour(3, -1), 2);
        due("42: two", x.between(0, 3), 2);
        due("42: other way", x.between(3, 0), 2);
        due("42: side by side", x.between(1, 2), 0);
        due("42: itself", x.between(1, 1), 0);
        x.days(6);
        due("38: of two", x.middle(), 0);
        due("39: over who has fallen", x.neighbour(0, 1), 2);
        due("39: of who has fallen", x.neighbour(1, -1), 0);
        due("39: beyond who has fallen", x.neighbour(2, 1), -1);
        due("42: who stands", x.between(0, 3), 1);
        x.change(0, 2);
        due("38: by seats", x.middle(), 2);
        due("39: by seats", x.neighbour(2, 1), 0);
        due("42: by seats", x.between(2, 0), 0);
        due("42: by seats, too", x.between(2, 3), 1);
        noElement("39: head", () -> x.neighbour(4, 0));
        badArgument("39: side", () -> x.neighbour(0, 0));
        noElement("42: head", () -> x.between(4, 0));
        noElement("42: other", () -> x.between(0, 4));
    }

    private static void see() {
        AlmondCabinet x = of(FOUR);
        due("43: 0 days", x.see(0, 0, true), 1);
        due("43: 20 days", x.see(5, 20, false), 2);
        due("43: 21 days", x.see(5, 21, false), -1);
        due("43: below 0", x.see(5, -1, false), -1);
        noElement("43: question", () -> x.see(6, 21, true));
        noElement("43: below", () -> x.see(-1, 0, true));
        for (int k = 3; k <= 8; k++) {
            due("43: more", x.see(0, 0, true), k);
        }
        due("43: no ninth", x.see(0, 0, true), -1);
        due("43: refused", x.count(11), 3);
        due("43: seen", x.count(7), 8);
        due("43: no act", x.count(6), 0);
        x.forget();
        due("46: forgotten", x.count(7), 0);
        due("46: status stays", x.count(11), 3);
        due("46: anew", x.see(0, 0, true), 1);
    }

    private static void leant() {
        AlmondCabinet x = of(FOUR);
        due("44: all", x.leant(0), 64);
        due("44: the first", x.leant(1), 0);
        due("44: without", x.leant(2), 1);
        x.see(0, 0, true);
        due("44: four", x.leant(0), 4);
        due("44: head 2, lean -8", x.leant(1), 200);
        due("44: not without", x.leant(2), 0);
        x.see(0, 0, false);
        due("44: both can't be", x.leant(0), 0);
        x.forget();
        x.see(3, 0, true);
        due("44: another question", x.leant(0), 0);
        x.forget();
        x.see(3, 20, false);
        due("44: of all questions", x.leant(0), 64);
        x.see(0, 0, true);
        x.see(0, 0, false);
        due("44: none", x.leant(1), -1);
        noElement("44: what", () -> x.leant(3));
        noElement("44: below 0", () -> x.leant(-1));
        AlmondCabinet own = of("head 90 0 1;melts 0;leans (almond=0);");
        own.days(3);
        due("44: not its own lean", own.leant(0), 16);
        own.see(0, 3, true);
        due("44: so without", own.leant(2), 1);
        due("44: that stands behind 3 days", own.leant(0), 13);
        own.forget();
        own.see(0, 1, false);
        due("44: that falls at once", own.leant(0), 1);
        due("44: lean 8", own.leant(1), 16);
        due("44: nothing changes", own.head(0, 2), 3);
        own.days(6);
        due("44: nobody stands", own.leant(0), 0);
        due("44: so without, too", own.leant(2), 1);
    }

    private static void look() {
        AlmondCabinet x = of("head 90 0 1;melts 0;leans (almond=0);");
        due("45: when", x.look(0), 1);
        due("45: unlike ones", x.look(1), 2);
        x.see(0, 3, true);
        due("45: those who stand longer", x.look(0), 4);
        due("45: unlike ones then", x.look(1), 2);
        x.see(0, 20, true);
        due("45: none", x.look(0), -1);
        due("45: none, 0", x.look(1), 0);
        x.forget();
        x.see(0, 1, false);
        due("45: one alone", x.look(0), 1);
        due("45: itself", x.look(1), 1);
        AlmondCabinet two = of("head 90 0 1;head 90 9 2;head 90 9 4;melts 0;leans (almond=0)*3;");
        due("45: heads of all seats", two.look(1), 4);
        due("45: first with most", two.look(0), 1);
        noElement("45: what", () -> x.look(2));
        noElement("45: below 0", () -> x.look(-1));
    }

    private static void game() {
        AlmondCabinet x = of(FOUR);
        due("47: one couple", x.game(0, 1, 0, 0), 1);
        due("47: both are turned", x.game(0, 1, 0, 1), 11);
        due("47: nobody is turned", x.game(0, 1, 3, 1), 0);
        due("47: one couple, too", x.game(0, 1, 3, 0), 1);
        due("47: the first one's choice", x.game(0, 3, 0, 1), 10);
        due("47: the other one's choice", x.game(3, 0, 0, 1), 1);
        noElement("47: head", () -> x.game(4, 0, 0, 0));
        noElement("47: other", () -> x.game(0, 4, 0, 0));
        noElement("47: question", () -> x.game(0, 0, 6, 0));
        noElement("47: what", () -> x.game(0, 0, 0, 2));
        badArgument("47: both are one", () -> x.game(0, 0, 0, 0));
        due("47: no act", x.count(6), 0);
        x.days(3);
        due("47: fallen", x.game(0, 3, 0, 0), -1);
        due("47: fallen, the first", x.game(3, 0, 0, 1), -1);
        badArgument("47: fallen and one", () -> x.game(3, 3, 0, 0));
        AlmondCabinet none = of("head 90 0 0;head 90 9 0;melts 0;leans (almond=0)*3;");
        none.days(2);
        due("47: one follows the other one", none.game(0, 1, 0, 1), 0);
    }

    private static void years() {
        AlmondCabinet x = of(FOUR);
        due("48: no days", x.years(5, 0, 0), 15);
        due("48: sugar now", x.years(5, 0, 1), 110);
        due("48: passing now", x.years(5, 0, 2), 0);
        for (int seed = -3; seed <= 3; seed++) {
            yearsBySteps(seed, 40);
        }
        yearsBySteps(MANY, 25);
        yearsBySteps(FEW, 7);
        noElement("48: what", () -> x.years(5, 41, 3));
        noElement("48: below 0", () -> x.years(5, 1, -1));
        badArgument("48: 41", () -> x.years(5, 41, 0));
        badArgument("48: n below 0", () -> x.years(5, -1, 0));
        due("48: no act", x.count(6), 0);
        due("48: no day", x.count(1), 0);
        due("48: without heads", new AlmondCabinet().years(1, 40, 1), 0);
    }

    /** The same days by acts, each on a cabinet whose only heat is the one drawn. */
    private static void yearsBySteps(int seed, int days) {
        AlmondCabinet x = of("head 60 2 3;marbled 70 1 5 6;head 50 8 4;heat 0;");
        int[] sugar = {60, 70, 50};
        int[] lean = {0, 0, 0};
        boolean[] stands = {true, true, true};
        int[] almond = {2, 1, 8};
        int state = seed;
        for (int day = 0; day < days; day++) {
            state = state * 1103515245 + 12345;
            int heat = (state >>> 16 & 0x7fff) % 10;
            state = state * 1103515245 + 12345;
            int head = (state >>> 16 & 0x7fff) % 3;
            state = state * 1103515245 + 12345;
            int act = (state >>> 16 & 0x7fff) % 5;
            if (act == 0) {
                sugar[head] = Math.min(99, sugar[head] + 9);
                lean[head] = stands[head] ? lean[head] : 0;
                stands[head] = true;
            } else if (act == 1 && stands[head]) {
                lean[head] = 0;
            } else if (act == 2 && stands[head] && sugar[head] > 9) {
                sugar[head] -= 9;
            }
            oneHotDay(sugar, lean, stands, almond, heat);
        }
        int standing = 0;
        for (int head = 0; head < 3; head++) {
            standing |= stands[head] ? 1 << head : 0;
        }
        due("48: who stands, seed " + seed, x.years(seed, days, 0), standing);
        due("48: sugar, seed " + seed, x.years(seed, days, 1), sugar[0] + sugar[1] + sugar[2]);
    }

    private static void oneHotDay(int[] sugar, int[] lean, boolean[] stands, int[] almond, int heat) {
        for (int head = 0; head < 3; head++) {
            if (stands[head]) {
                sugar[head] = Math.max(0, sugar[head] - Math.max(0, heat - almond[head]));
                stands[head] = sugar[head] > 0;
            }
        }
        for (int head = 0; head < 3 && heat >= 5; head++) {
            int left = head > 0 && stands[head - 1] ? sugar[head - 1] : head > 1 && stands[head - 2] ? sugar[head - 2] : 0;
            int right = head < 2 && stands[head + 1] ? sugar[head + 1] : head < 1 && stands[head + 2] ? sugar[head + 2] : 0;
            lean[head] += stands[head] ? Integer.compare(left, right) : 0;
        }
        for (int head = 0; head < 3; head++) {
            int side = lean[head] > 0 ? 1 : -1;
            for (int falls = head; falls != -1 && stands[falls] && lean[falls] == 9 * side;) {
                stands[falls] = false;
                int next = falls + side;
                while (next >= 0 && next < 3 && !stands[next]) {
                    next += side;
                }
                falls = next >= 0 && next < 3 ? next : -1;
                if (falls != -1) {
                    lean[falls] = Math.max(-9, Math.min(9, lean[falls] + 2 * side));
                }
            }
        }
    }

    private static void image() {
        AlmondCabinet x = of(CHAIN);
        due("50: none", x.restore(), false);
        x.days(1);
        x.see(0, 0, true);
        x.days(0);
        x.image();
        x.days(3);
        x.change(0, 1);
        x.turn(2, 2);
        x.cast(0, 51);
        x.see(1, 1, false);
        x.see(1, 21, false);
        feedText(x, "x");
        x.cabinet(1);
        feedText(x, "x");
        due("50: restored", x.restore(), true);
        int[] counts = {4, 1, 4, 15, 0, 360, 1, 1, 20, 0, 1, 0};
        for (int what = 0; what < counts.length; what++) {
            due("49: count(" + what + ")", x.count(what), counts[what]);
        }
        due("49: lean", x.head(0, 2), 3);
        due("49: seat", x.seat(0), 0);
        due("49: opinions", x.head(2, 6), 4);
        due("49: the place of the fault is not in it", x.fault(), 0);
        due("49: acts can be undone", x.undo(), 0);
        due("49: to the first day", x.count(1), 0);
        AlmondCabinet seen = of(FOUR);
        seen.see(0, 0, true);
        seen.turn(1, 1);
        seen.image();
        seen.undo();
        seen.turn(0, 0);
        seen.turn(0, 1);
        seen.turn(0, 2);
        seen.forget();
        seen.see(5, 7, false);
        seen.restore();
        due("49: what is seen", seen.leant(1), 200);
        due("49: the acts that were kept", seen.undo(), 0);
        due("49: undone by them", seen.head(1, 6), 5);
        due("49: and by no others", seen.head(0, 6), 3);
        due("50: again", x.restore(), true);
        due("50: day", x.count(1), 1);
        x.undo();
        x.image();
        x.days(5);
        x.restore();
        due("49: in place of another one", x.count(1), 0);
        due("49: no acts in it", x.undo(), -1);
    }
}
