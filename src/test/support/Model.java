import java.util.ArrayList;
import java.util.HashMap;
import java.util.HashSet;
import java.util.List;
import java.util.Map;
import java.util.NoSuchElementException;
import java.util.Set;

/**
 * A second reading of the document, in its order and by its words, as slow and plain as may be: it
 * shares no code with the class, copies the whole room for whatever is only thought of, and has
 * the same methods, so that any calls can be put to both.
 */
final class Model {
    private static final int NONE = -1;

    private static final class Head {
        int sugar;
        int almond;
        int lean = 0;
        boolean stands = true;
        boolean marbled;
        boolean[] one = new boolean[6];
        boolean[] two = new boolean[6];

        Head copy() {
            Head head = new Head();
            head.sugar = sugar;
            head.almond = almond;
            head.lean = lean;
            head.stands = stands;
            head.marbled = marbled;
            head.one = one.clone();
            head.two = two.clone();
            return head;
        }

        boolean opinion(int question) {
            if (one[question] == two[question]) {
                return one[question];
            }
            return lean >= 0 ? one[question] : two[question];
        }

        void turn(int question) {
            one[question] = !one[question];
            two[question] = !two[question];
        }

        void cast(int more) {
            sugar = Math.min(99, sugar + more);
            if (!stands) {
                stands = true;
                lean = 0;
            }
        }
    }

    /** All that days and acts change. */
    private static final class Room {
        final List<Head> heads = new ArrayList<>();
        final List<Head> seats = new ArrayList<>();
        int day = 0;

        Room copy() {
            Room room = new Room();
            room.day = day;
            for (Head head : heads) {
                room.heads.add(head.copy());
            }
            for (Head head : seats) {
                room.seats.add(room.heads.get(heads.indexOf(head)));
            }
            return room;
        }

        List<Head> standing() {
            List<Head> all = new ArrayList<>();
            for (Head head : heads) {
                if (head.stands) {
                    all.add(head);
                }
            }
            return all;
        }

        Head next(Head head, int side) {
            for (int seat = seats.indexOf(head) + side; seat >= 0 && seat < seats.size(); seat += side) {
                if (seats.get(seat).stands) {
                    return seats.get(seat);
                }
            }
            return null;
        }

        void swap(int head, int other) {
            int seat = seats.indexOf(heads.get(head));
            int otherSeat = seats.indexOf(heads.get(other));
            seats.set(seat, heads.get(other));
            seats.set(otherSeat, heads.get(head));
        }

        boolean vote(Head head, int question) {
            Head asked = head;
            if (head.lean >= 5 && next(head, 1) != null) {
                asked = next(head, 1);
            }
            if (head.lean <= -5 && next(head, -1) != null) {
                asked = next(head, -1);
            }
            return asked.opinion(question);
        }

        int margin(int question) {
            int margin = 0;
            for (Head head : standing()) {
                margin += vote(head, question) ? 1 : -1;
            }
            return margin;
        }

        boolean passes(int question) {
            return margin(question) > 0;
        }

        int passed() {
            int bits = 0;
            for (int question = 0; question < 6; question++) {
                bits += passes(question) ? 1 << question : 0;
            }
            return bits;
        }

        int sugar() {
            int all = 0;
            for (Head head : heads) {
                all += head.sugar;
            }
            return all;
        }

        int bits(List<Head> some) {
            int bits = 0;
            for (int head = 0; head < heads.size(); head++) {
                bits += some.contains(heads.get(head)) ? 1 << head : 0;
            }
            return bits;
        }

        /** Who falls with one that falls to a side. */
        List<Head> fall(Head head, int side) {
            List<Head> fallen = new ArrayList<>();
            Head falling = head;
            while (falling != null) {
                falling.stands = false;
                fallen.add(falling);
                Head next = next(falling, side);
                falling = null;
                if (next != null) {
                    next.lean = Math.max(-9, Math.min(9, next.lean + 2 * side));
                    falling = next.lean == 9 * side ? next : null;
                }
            }
            return fallen;
        }
    }

    private static final class Kept {
        Room room;
        List<Room> acts;
        List<int[]> seen;
        int[] status;
    }

    private final StringBuilder tape = new StringBuilder();
    private int place = NONE;
    private ModelText text = new ModelText("");
    private Room room = new Room();
    private List<Room> acts = new ArrayList<>();
    private List<int[]> seen = new ArrayList<>();
    private int[] status = new int[3];
    private Kept kept = null;

    // ---- promises 1 to 7

    int feed(int a, int b, int c, int d, int e) {
        if (tape.length() > 680) {
            return NONE;
        }
        for (int four : new int[] {a, b, c, d, e}) {
            tape.append((char) (four >>> 24)).append((char) (four >>> 16 & 255));
            tape.append((char) (four >>> 8 & 255)).append((char) (four & 255));
        }
        return tape.length();
    }

    int cabinet(int n) {
        argument(n >= 0 && n <= tape.length());
        String bytes = tape.substring(0, n);
        tape.setLength(0);
        ModelText fresh;
        try {
            fresh = new ModelText(bytes);
        } catch (ModelText.Fault fault) {
            place = fault.place;
            status[0]++;
            return fault.number;
        }
        place = NONE;
        text = fresh;
        room = new Room();
        for (int[] told : text.heads) {
            Head head = new Head();
            head.sugar = told[0];
            head.almond = told[1];
            for (int question = 0; question < 6; question++) {
                head.one[question] = (told[2] & 1 << question) != 0;
                head.two[question] = (told[3] & 1 << question) != 0;
            }
            head.marbled = told[4] == 1;
            room.heads.add(head);
            room.seats.add(head);
        }
        acts = new ArrayList<>();
        seen = new ArrayList<>();
        kept = null;
        return 0;
    }

    int fault() {
        return place;
    }

    int count(int what) {
        element(what >= 0 && what <= 11);
        int[] first = {room.heads.size(), room.day, heatOf(room.day), room.bits(room.standing()), room.passed(),
            room.sugar(), acts.size(), seen.size(), tape.length()};
        return what < 9 ? first[what] : status[what - 9];
    }

    int head(int head, int what) {
        Head its = headOf(head);
        element(what >= 0 && what <= 6);
        int opinions = 0;
        for (int question = 0; question < 6; question++) {
            opinions += its.opinion(question) ? 1 << question : 0;
        }
        return new int[] {its.sugar, its.almond, its.lean, room.seats.indexOf(its), its.stands ? 1 : 0,
            its.marbled ? 1 : 0, opinions}[what];
    }

    int seat(int seat) {
        element(seat >= 0 && seat < room.seats.size());
        return room.heads.indexOf(room.seats.get(seat));
    }

    // ---- promises 8 to 14

    int days(int many) {
        if (many < 1 || many > 20 || room.day + many > 999) {
            return refused();
        }
        act();
        pass(room, many);
        return room.day;
    }

    boolean prop(int head) {
        if (!headOf(head).stands || headOf(head).lean == 0) {
            return refused() != NONE;
        }
        act().heads.get(head).lean = 0;
        return true;
    }

    int cast(int head, int more) {
        headOf(head);
        if (more < 1 || more > 50) {
            return refused();
        }
        act().heads.get(head).cast(more);
        return headOf(head).sugar;
    }

    int lick(int head, int less) {
        if (headOf(head).sugar - (long) less < 1 || less < 1 || less > 9) {
            return refused();
        }
        act().heads.get(head).sugar -= less;
        return headOf(head).sugar;
    }

    int turn(int head, int question) {
        headOf(head);
        question(question);
        act().heads.get(head).turn(question);
        return head(head, 6);
    }

    boolean change(int head, int other) {
        headOf(head);
        headOf(other);
        if (head == other) {
            return refused() != NONE;
        }
        act().swap(head, other);
        return true;
    }

    int undo() {
        if (acts.isEmpty()) {
            return NONE;
        }
        room = acts.remove(acts.size() - 1);
        return acts.size();
    }

    // ---- promises 15 to 20

    int then(int head, int days, int what) {
        headOf(head);
        element(what >= 0 && what <= 2);
        argument(days >= 0 && days <= 40);
        Head its = behind(days).heads.get(head);
        return what == 0 ? its.sugar : what == 1 ? its.lean : its.stands ? 1 : 0;
    }

    int later(int days, int what) {
        element(what == 0 || what == 1);
        argument(days >= 0 && days <= 40);
        Room then = behind(days);
        return what == 0 ? then.bits(then.standing()) : then.passed();
    }

    int falls(int head) {
        headOf(head);
        for (int days = 0; days <= 40; days++) {
            if (!behind(days).heads.get(head).stands) {
                return days;
            }
        }
        return NONE;
    }

    int down(int k) {
        argument(k >= 1 && k <= 40);
        Room before = behind(k - 1);
        Room after = behind(k);
        return before.bits(before.standing()) - after.bits(after.standing());
    }

    int last() {
        int last = NONE;
        int latest = NONE;
        for (int head = 0; head < room.heads.size(); head++) {
            int falls = falls(head) == NONE ? 41 : falls(head);
            if (headOf(head).stands && falls > latest) {
                latest = falls;
                last = head;
            }
        }
        return last;
    }

    int tips(int question) {
        question(question);
        for (int days = 1; days <= 40; days++) {
            if (behind(days).passes(question) != room.passes(question)) {
                return days;
            }
        }
        return NONE;
    }

    // ---- promises 21 to 28

    int votes(int question, int what) {
        question(question);
        element(what == 0 || what == 1);
        List<Head> some = new ArrayList<>();
        for (Head head : room.standing()) {
            if (room.vote(head, question) == (what == 0)) {
                some.add(head);
            }
        }
        return room.bits(some);
    }

    int decisive(int question) {
        question(question);
        int bits = 0;
        for (Head head : room.standing()) {
            Room without = room.copy();
            without.heads.get(room.heads.indexOf(head)).stands = false;
            if (without.passes(question) != room.passes(question)) {
                bits += 1 << room.heads.indexOf(head);
            }
        }
        return bits;
    }

    int toTurn(int question) {
        question(question);
        for (int many = 1; many <= 8; many++) {
            for (int set = 0; set < 256; set++) {
                if (Integer.bitCount(set) == many && (set & ~count(3)) == 0 && tipsBy(question, set)) {
                    return set;
                }
            }
        }
        return NONE;
    }

    private boolean tipsBy(int question, int set) {
        Room turned = room.copy();
        for (int head = 0; head < 8; head++) {
            if ((set & 1 << head) != 0) {
                turned.heads.get(head).turn(question);
            }
        }
        return turned.passes(question) != room.passes(question);
    }

    int brings(int head, int side) {
        headOf(head);
        argument(side == -1 || side == 1);
        if (!headOf(head).stands) {
            return 0;
        }
        Room fallen = room.copy();
        return fallen.bits(fallen.fall(fallen.heads.get(head), side));
    }

    int agree(int head, int other) {
        int many = 0;
        for (int question = 0; question < 6; question++) {
            many += headOf(head).opinion(question) == headOf(other).opinion(question) ? 1 : 0;
        }
        return many;
    }

    int party(int head, int many) {
        headOf(head);
        argument(many >= 0 && many <= 6);
        int bits = 0;
        for (int other = 0; other < room.heads.size(); other++) {
            bits += agree(head, other) >= many ? 1 << other : 0;
        }
        return bits;
    }

    int rooms(int what) {
        element(what == 0 || what == 1);
        int least = Integer.MAX_VALUE;
        int best = 0;
        for (int set = 0; set < 256; set++) {
            int unlike = 0;
            for (Head head : room.standing()) {
                boolean inOne = (set & 1 << room.heads.indexOf(head)) != 0;
                unlike += inOne ? head.sugar : -head.sugar;
            }
            if ((set & ~count(3)) == 0 && Math.abs(unlike) < least) {
                least = Math.abs(unlike);
                best = set;
            }
        }
        return what == 0 ? least : best;
    }

    int better() {
        int most = Integer.bitCount(room.passed());
        int best = NONE;
        for (int head = 0; head < room.heads.size(); head++) {
            for (int other = head + 1; other < room.heads.size(); other++) {
                Room changed = room.copy();
                changed.swap(head, other);
                if (Integer.bitCount(changed.passed()) > most) {
                    most = Integer.bitCount(changed.passed());
                    best = 10 * head + other;
                }
            }
        }
        return best;
    }

    // ---- promises 29 to 33

    int heaviest(int days) {
        argument(days >= 0 && days <= 40);
        Room then = behind(days);
        Head best = null;
        for (Head head : then.standing()) {
            best = best == null || head.sugar > best.sugar ? head : best;
        }
        return then.heads.indexOf(best);
    }

    int melted(int days) {
        argument(days >= 0 && days <= 40);
        return room.sugar() - behind(days).sugar();
    }

    int hottest(int days) {
        argument(days >= 1 && days <= 40);
        for (int heat = 9; heat > 0; heat--) {
            for (int k = 0; k < days; k++) {
                if (heatOf(room.day + k) == heat) {
                    return k;
                }
            }
        }
        return 0;
    }

    int worst(int side, int what) {
        element(what == 0 || what == 1);
        argument(side == -1 || side == 1);
        int worst = NONE;
        int most = 0;
        for (int head = 0; head < room.heads.size(); head++) {
            int many = Integer.bitCount(brings(head, side));
            worst = many > most ? head : worst;
            most = Math.max(many, most);
        }
        return what == 0 ? worst : most;
    }

    int toCast(int head, int days) {
        headOf(head);
        argument(days >= 0 && days <= 40);
        for (int more = 0; more <= 50; more++) {
            Room then = room.copy();
            then.heads.get(head).sugar = Math.min(99, headOf(head).sugar + more);
            pass(then, days);
            if (then.heads.get(head).stands) {
                return more;
            }
        }
        return NONE;
    }

    // ---- promises 34 to 42

    int margin(int question) {
        question(question);
        return room.margin(question);
    }

    int agreed() {
        int bits = 0;
        for (int question = 0; question < 6; question++) {
            Set<Boolean> votes = new HashSet<>();
            for (Head head : room.standing()) {
                votes.add(room.vote(head, question));
            }
            bits += votes.size() < 2 ? 1 << question : 0;
        }
        return bits;
    }

    int factions() {
        Set<Integer> kinds = new HashSet<>();
        for (Head head : room.standing()) {
            kinds.add(head(room.heads.indexOf(head), 6));
        }
        return kinds.size();
    }

    int wins(int head) {
        Head its = headOf(head);
        int bits = 0;
        for (int question = 0; question < 6; question++) {
            boolean wins = its.stands && room.vote(its, question) == room.passes(question);
            bits += wins ? 1 << question : 0;
        }
        return bits;
    }

    int middle() {
        for (int unlike = 0; unlike <= 1; unlike++) {
            for (Head head : room.seats) {
                if (head.stands && onSide(head, 1) - onSide(head, -1) == unlike) {
                    return room.heads.indexOf(head);
                }
            }
        }
        return NONE;
    }

    private int onSide(Head head, int side) {
        Head next = room.next(head, side);
        return next == null ? 0 : 1 + onSide(next, side);
    }

    int neighbour(int head, int side) {
        headOf(head);
        argument(side == -1 || side == 1);
        return room.heads.indexOf(room.next(headOf(head), side));
    }

    int ties() {
        int bits = 0;
        for (int question = 0; question < 6; question++) {
            bits += room.margin(question) == 0 ? 1 << question : 0;
        }
        return bits;
    }

    int leaning() {
        List<Head> some = new ArrayList<>();
        for (Head head : room.standing()) {
            if (head.lean >= 5 || head.lean <= -5) {
                some.add(head);
            }
        }
        return room.bits(some);
    }

    int between(int head, int other) {
        int seat = room.seats.indexOf(headOf(head));
        int otherSeat = room.seats.indexOf(headOf(other));
        int many = 0;
        for (Head one : room.standing()) {
            int its = room.seats.indexOf(one);
            many += seat < its && its < otherSeat || otherSeat < its && its < seat ? 1 : 0;
        }
        return many;
    }

    // ---- promises 43 to 48

    int see(int question, int days, boolean passed) {
        question(question);
        if (seen.size() == 8 || days < 0 || days > 20) {
            status[2]++;
            return NONE;
        }
        seen.add(new int[] {question, days, passed ? 1 : 0});
        return seen.size();
    }

    private boolean isSo(Room guess) {
        for (int[] one : seen) {
            Room then = guess.copy();
            pass(then, one[1]);
            if (then.passes(one[0]) != (one[2] == 1)) {
                return false;
            }
        }
        return true;
    }

    private List<int[]> leantHeads() {
        List<int[]> all = new ArrayList<>();
        for (Head head : room.standing()) {
            for (int lean = -8; lean <= 8; lean++) {
                Room guess = room.copy();
                guess.heads.get(room.heads.indexOf(head)).lean = lean;
                if (lean != head.lean && isSo(guess)) {
                    all.add(new int[] {room.heads.indexOf(head), lean});
                }
            }
        }
        return all;
    }

    int leant(int what) {
        element(what >= 0 && what <= 2);
        if (what == 2) {
            return isSo(room) ? 1 : 0;
        }
        List<int[]> all = leantHeads();
        if (what == 0) {
            return all.size();
        }
        return all.isEmpty() ? NONE : 100 * all.get(0)[0] + all.get(0)[1] + 8;
    }

    int look(int what) {
        element(what == 0 || what == 1);
        List<Set<Integer>> passed = new ArrayList<>();
        for (int days = 0; days <= 20; days++) {
            passed.add(new HashSet<>());
        }
        for (int[] one : leantHeads()) {
            Room guess = room.copy();
            guess.heads.get(one[0]).lean = one[1];
            for (int days = 1; days <= 20; days++) {
                pass(guess, 1);
                passed.get(days).add(guess.passed());
            }
        }
        int best = 0;
        for (int days = 1; days <= 20; days++) {
            best = passed.get(days).size() > passed.get(best).size() ? days : best;
        }
        return what == 1 ? passed.get(best).size() : best == 0 ? NONE : best;
    }

    void forget() {
        seen = new ArrayList<>();
    }

    int game(int head, int other, int question, int what) {
        headOf(head);
        headOf(other);
        question(question);
        element(what == 0 || what == 1);
        argument(head != other);
        if (!headOf(head).stands || !headOf(other).stands) {
            return NONE;
        }
        List<Integer> resting = new ArrayList<>();
        for (int couple : new int[] {0, 1, 10, 11}) {
            int mine = couple / 10;
            int theirs = couple % 10;
            int[] here = gains(head, other, question, mine, theirs);
            boolean firstRests = gains(head, other, question, 1 - mine, theirs)[0] <= here[0];
            boolean otherRests = gains(head, other, question, mine, 1 - theirs)[1] <= here[1];
            if (firstRests && otherRests) {
                resting.add(couple);
            }
        }
        return what == 0 ? resting.size() : resting.isEmpty() ? NONE : resting.get(0);
    }

    private int[] gains(int head, int other, int question, int mine, int theirs) {
        Room turned = room.copy();
        Head first = turned.heads.get(head);
        Head second = turned.heads.get(other);
        if (mine == 1) {
            first.turn(question);
        }
        if (theirs == 1) {
            second.turn(question);
        }
        boolean passes = turned.passes(question);
        return new int[] {(first.opinion(question) == passes ? 5 : 0) - mine,
            (second.opinion(question) == passes ? 5 : 0) - theirs};
    }

    int years(int seed, int n, int what) {
        element(what >= 0 && what <= 2);
        argument(n >= 0 && n <= 40);
        Room then = room.copy();
        int[] drawn = {seed};
        for (int k = 0; k < n; k++) {
            int heat = draw(drawn, 10);
            if (!then.heads.isEmpty()) {
                Head head = then.heads.get(draw(drawn, then.heads.size()));
                int which = draw(drawn, 5);
                if (which == 0) {
                    head.cast(9);
                } else if (which == 1 && head.stands) {
                    head.lean = 0;
                } else if (which == 2 && head.stands && head.sugar > 9) {
                    head.sugar -= 9;
                }
            }
            passOne(then, heat);
        }
        return what == 0 ? then.bits(then.standing()) : what == 1 ? then.sugar() : Integer.bitCount(then.passed());
    }

    private static int draw(int[] seed, int n) {
        seed[0] = (int) (seed[0] * 1103515245L + 12345);
        return (seed[0] >> 16 & 0x7fff) % n;
    }

    // ---- promises 49 and 50

    void image() {
        kept = kept();
    }

    boolean restore() {
        if (kept == null) {
            return false;
        }
        Kept old = kept;
        room = old.room;
        acts = old.acts;
        seen = old.seen;
        status = old.status;
        kept = kept();
        return true;
    }

    /** Rooms among the acts and what is seen are never changed, so a copy of the list will do. */
    private Kept kept() {
        Kept all = new Kept();
        all.room = room.copy();
        all.acts = new ArrayList<>(acts);
        all.seen = new ArrayList<>(seen);
        all.status = status.clone();
        return all;
    }

    // ---- a day

    private int heatOf(int day) {
        return text.heat.isEmpty() ? 4 : text.heat.get(day % text.heat.size());
    }

    private Room behind(int days) {
        Room then = room.copy();
        pass(then, days);
        return then;
    }

    private void pass(Room it, int days) {
        for (int k = 0; k < days; k++) {
            passOne(it, heatOf(it.day));
        }
    }

    private void passOne(Room it, int heat) {
        for (Head head : it.standing()) {
            int less = text.melts == null ? heat - head.almond : text.melts.of(values(it, head, heat));
            head.sugar -= Math.max(0, Math.min(20, less));
            head.sugar = Math.max(0, head.sugar);
            head.stands = head.sugar > 0;
        }
        Map<Head, Integer> leans = new HashMap<>();
        for (Head head : it.standing()) {
            Map<String, Integer> values = values(it, head, heat);
            int more = heat >= 5 ? Integer.signum(values.get("left") - values.get("right")) : 0;
            if (text.leans != null) {
                more = Math.max(-3, Math.min(3, text.leans.of(values)));
            }
            leans.put(head, Math.max(-9, Math.min(9, head.lean + more)));
        }
        for (Map.Entry<Head, Integer> one : leans.entrySet()) {
            one.getKey().lean = one.getValue();
        }
        for (Head head : it.seats) {
            if (head.stands && (head.lean == 9 || head.lean == -9)) {
                it.fall(head, head.lean / 9);
            }
        }
        it.day++;
    }

    private static Map<String, Integer> values(Room it, Head head, int heat) {
        Head left = it.next(head, -1);
        Head right = it.next(head, 1);
        return Map.of("sugar", head.sugar, "almond", head.almond, "heat", heat, "lean", head.lean, "day", it.day,
                "left", left == null ? 0 : left.sugar, "right", right == null ? 0 : right.sugar);
    }

    // ---- what calls must have

    /** The room as it is goes among the acts, and a copy of it is what the act changes. */
    private Room act() {
        acts.add(room);
        if (acts.size() > 40) {
            acts.remove(0);
        }
        room = room.copy();
        return room;
    }

    private int refused() {
        status[1]++;
        return NONE;
    }

    private Head headOf(int head) {
        element(head >= 0 && head < room.heads.size());
        return room.heads.get(head);
    }

    private static void question(int question) {
        element(question >= 0 && question < 6);
    }

    private static void element(boolean isThere) {
        if (!isThere) {
            throw new NoSuchElementException();
        }
    }

    private static void argument(boolean holds) {
        if (!holds) {
            throw new IllegalArgumentException();
        }
    }
}
