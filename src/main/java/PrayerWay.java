import java.util.Arrays;
import java.util.NoSuchElementException;

/**
 * Gods by petition: a land of soils, things, gods, prayers, villages, spells and sights, told as a
 * text, and what is asked of it.
 */
public final class PrayerWay {
    public static final int NONE = -1;

    /** Answers a question that was asked rightly, but to which there is nothing to tell. */
    private static final int NOTHING = -2;

    private static final int TAPE = 1200;
    private static final int FED = 20;
    private static final int CELLS = 24;
    private static final int SOILS = 5;
    private static final int THINGS = 6;
    private static final int GODS = 6;
    private static final int PRAYERS = 8;
    private static final int VILLAGES = 4;
    private static final int SPELLS = 6;
    private static final int SIGHTS = 8;
    private static final int NAMES = THINGS + GODS + PRAYERS + VILLAGES;
    private static final int HOURS = 24;
    private static final int DAYS = 96;
    private static final int ACTS = 12;
    private static final int MARKS = 3;
    private static final int LAWS = 3;
    private static final int TOP_PRICE = 99;
    private static final int SEEDS = 65537;

    /** The WORDS that begin LINES, and any: none of them is a NAME. Their order gives the numbers below. */
    private static final String RESERVED =
            "land row thing luck god holds sends bars prayer clash village spell saw any";
    private static final int LAND = 0;
    private static final int ROW = 1;
    private static final int THING = 2;
    private static final int LUCK = 3;
    private static final int GOD = 4;
    private static final int HOLDS = 5;
    private static final int SENDS = 6;
    private static final int BARS = 7;
    private static final int PRAYER = 8;
    private static final int CLASH = 9;
    private static final int VILLAGE = 10;
    private static final int SPELL = 11;
    private static final int SAW = 12;
    private static final int ANY = 13;

    /** How many LINES of each sort there is room for; of rows only as many as the land is high. */
    private static final int[] ROOM = {1, 4, THINGS, 1, GODS, 16, 12, 6, PRAYERS, 8, VILLAGES, SPELLS, SIGHTS};

    private static final int FAULT_FORM = 1;
    private static final int FAULT_UNTOLD = 2;
    private static final int FAULT_AGAIN = 3;
    private static final int FAULT_BOUNDS = 4;
    private static final int FAULT_MANY = 5;
    private static final int FAULT_LACKS = 6;
    private static final int FAULT_SOIL = 7;

    private static final int NO_SUCH = 1;
    private static final int BAD_NUMBER = 2;
    private static final int NO_ROOM = 3;
    private static final int FAULTY = 4;
    private static final int NOT_SO = 5;
    private static final int EMPTY = 6;

    private static final int PROUD = 1;
    private static final int JEALOUS = 2;
    private static final int BY_KIND_ASLEEP = 3;

    private static final int BY_GIFT = 1;
    private static final int BY_NEED = 2;

    private static final int GRANTED = 0;
    private static final int DEAD = 1;
    private static final int LOST = 2;
    private static final int ABSENT = 3;

    /** What is told of a PRAYER, by the numbers that the face uses. */
    private static final int WHAT = 0;
    private static final int CELL = 1;
    private static final int HOUR = 2;
    private static final int WITH = 3;
    private static final int BEGINS = 4;
    private static final int GIFT = 5;
    private static final int NEED = 6;
    private static final int PRAYER_FACTS = 7;

    private static final int SIGHT_FACTS = 4;

    private int trouble;
    private int fault;
    private int place;
    private Land land = new Land();
    private final State now = new State();
    private final Past past = new Past();
    private final Reader reader = new Reader();
    private final Days days = new Days();
    private final Days trial = new Days();
    private final Villages villages = new Villages();
    private final Spells spells = new Spells();
    private final Sights sights = new Sights();
    private boolean stale = true;

    public PrayerWay() {
    }

    // ---- the land

    public int feed(int a, int b, int c, int d, int e) {
        Tape tape = reader.tape;
        if (tape.fed > TAPE - FED) {
            return NONE;
        }
        tape.append(a);
        tape.append(b);
        tape.append(c);
        tape.append(d);
        tape.append(e);
        return tape.fed;
    }

    public int land(int n) {
        if (n < 0 || n > reader.tape.fed) {
            return refuse(BAD_NUMBER);
        }
        boolean good = reader.read(n);
        fault = reader.fault;
        place = reader.place;
        if (!good) {
            return refuse(FAULTY);
        }
        land = reader.swap(land);
        now.copy(land.told);
        past.forgetAll();
        spells.forget();
        stale = true;
        return answer(land.gods());
    }

    public int fault() {
        return fault;
    }

    public int where() {
        return trouble == FAULTY ? place : NONE;
    }

    // ---- whose it is

    public int soil(int x, int y) {
        if (x < 0 || x >= land.wide || y < 0 || y >= land.high) {
            return refuse(NO_SUCH);
        }
        return answer(land.groundOf(land.wide * y + x));
    }

    public int has(int god, int thing, int soil, int hour) {
        if (!isGod(god) || !isThing(thing) || !isSoil(soil)) {
            return refuse(NO_SUCH);
        }
        if (!isHour(hour)) {
            return refuse(BAD_NUMBER);
        }
        return answer(bit(land.holds(god, thing, soil, hour)));
    }

    public int owners(int thing, int soil, int hour) {
        if (!isThing(thing) || !isSoil(soil)) {
            return refuse(NO_SUCH);
        }
        if (!isHour(hour)) {
            return refuse(BAD_NUMBER);
        }
        return answer(land.holders(thing, soil, hour));
    }

    public int many(int god) {
        if (!isGod(god)) {
            return refuse(NO_SUCH);
        }
        return answer(Offices.held(land, god, god));
    }

    public int points() {
        return land.stands() ? answer(Offices.all(land)) : refuse(NO_SUCH);
    }

    public int nobodys() {
        return land.stands() ? answer(Offices.all(land) - Offices.heldBy(land, 1)) : refuse(NO_SUCH);
    }

    public int firstNobodys() {
        return land.stands() ? answer(Offices.firstFree(land)) : refuse(NO_SUCH);
    }

    public int disputed() {
        return land.stands() ? answer(Offices.heldBy(land, 2)) : refuse(NO_SUCH);
    }

    public int shared(int god, int other) {
        if (!isGod(god) || !isGod(other) || god == other) {
            return refuse(NO_SUCH);
        }
        return answer(Offices.held(land, god, other));
    }

    public int in(int god, int hour) {
        if (!isGod(god)) {
            return refuse(NO_SUCH);
        }
        if (!isHour(hour)) {
            return refuse(BAD_NUMBER);
        }
        return answer(bit(land.receives(god, hour, now)));
    }

    // ---- prayers

    public int fate(int prayer) {
        return isPrayer(prayer) ? answer(current().fates[prayer]) : refuse(NO_SUCH);
    }

    public int when(int prayer) {
        return isPrayer(prayer) ? answer(current().ended[prayer]) : refuse(NO_SUCH);
    }

    public int whom(int prayer) {
        return isPrayer(prayer) ? answer(current().at[prayer]) : refuse(NO_SUCH);
    }

    public int waits(int prayer) {
        return isPrayer(prayer) ? answer(current().waited[prayer]) : refuse(NO_SUCH);
    }

    public int altars(int prayer) {
        return isPrayer(prayer) ? answer(current().steps[prayer]) : refuse(NO_SUCH);
    }

    public int altar(int prayer, int i) {
        if (!isPrayer(prayer) || i < 0 || i >= current().steps[prayer]) {
            return refuse(NO_SUCH);
        }
        return answer(current().stepOf(prayer, i));
    }

    public int late(int prayer) {
        return isPrayer(prayer) ? answer(bit(current().isLate(prayer))) : refuse(NO_SUCH);
    }

    public int law(int law, int what) {
        if (!land.stands() || law < 0 || law >= LAWS || what < 0 || what > 3) {
            return refuse(NO_SUCH);
        }
        trial.run(land, now, law, NONE, NONE);
        return answer(trial.tally(what));
    }

    public int queue(int god, int hour) {
        if (!isGod(god)) {
            return refuse(NO_SUCH);
        }
        if (hour < 0 || hour >= DAYS) {
            return refuse(BAD_NUMBER);
        }
        return answer(current().queueOf(god, hour));
    }

    public int alone(int prayer, int god) {
        if (!isPrayer(prayer) || !isGod(god)) {
            return refuse(NO_SUCH);
        }
        return answer(grantedAlone(prayer, god));
    }

    public int start(int prayer) {
        return isPrayer(prayer) ? answer(bestStart(prayer)) : refuse(NO_SUCH);
    }

    public int ring(int prayer) {
        return isPrayer(prayer) ? answer(ringOf(prayer)) : refuse(NO_SUCH);
    }

    // ---- grants, offices

    public int together() {
        return land.stands() ? answer(Offices.mostTogether(land, current())) : refuse(NO_SUCH);
    }

    public int offended() {
        return land.stands() ? answer(Offices.fewestOffended(land, current())) : refuse(NO_SUCH);
    }

    public int keep() {
        return land.stands() ? answer(Offices.fewestHolding(land, false)) : refuse(NO_SUCH);
    }

    public int once() {
        return land.stands() ? answer(Offices.fewestHolding(land, true)) : refuse(NO_SUCH);
    }

    // ---- villages

    public int content(int village) {
        if (!isVillage(village)) {
            return refuse(NO_SUCH);
        }
        villages.look(land, now);
        return answer(villages.contentWith(village, now.saints[village]));
    }

    public int saint(int village) {
        if (!isVillage(village)) {
            return refuse(NO_SUCH);
        }
        villages.look(land, now);
        return answer(villages.bestFor(village));
    }

    public int rest() {
        if (!land.stands()) {
            return refuse(NO_SUCH);
        }
        villages.look(land, now);
        return answer(bit(villages.areAtRest()));
    }

    public int rests() {
        if (!land.stands()) {
            return refuse(NO_SUCH);
        }
        villages.look(land, now);
        return answer(villages.countRests());
    }

    // ---- spells

    public int left() {
        return land.stands() ? answer(Spells.inOrder(land)) : refuse(NO_SUCH);
    }

    public int ends(int what) {
        if (!land.stands() || what < 0 || what > 2) {
            return refuse(NO_SUCH);
        }
        spells.learn(land);
        if (what == 0) {
            return answer(spells.found);
        }
        return answer(what == 1 ? spells.least : spells.greatest);
    }

    // ---- what was seen

    public int fits() {
        return land.stands() ? answer(Sights.fitting(land)) : refuse(NO_SUCH);
    }

    public int ask() {
        int number = whyNothingToAsk();
        if (number != 0) {
            return refuse(number);
        }
        sights.seek(land);
        return answer(sights.point);
    }

    public int askMost() {
        int number = whyNothingToAsk();
        if (number != 0) {
            return refuse(number);
        }
        sights.seek(land);
        return answer(sights.most);
    }

    // ---- acts

    public boolean sleep(int god, boolean is) {
        if (!isGod(god)) {
            return deny(NO_SUCH);
        }
        if (now.isLulled(god) == is) {
            return deny(NOT_SO);
        }
        act();
        now.turn(god);
        return allow();
    }

    public int age() {
        int gods = land.gods();
        if (gods < 1) {
            return refuse(NO_SUCH);
        }
        act();
        int god = now.draw() % gods;
        now.turn(god);
        return answer(god);
    }

    public boolean price(int god, int v) {
        if (!isGod(god)) {
            return deny(NO_SUCH);
        }
        if (v < 0 || v > TOP_PRICE) {
            return deny(BAD_NUMBER);
        }
        if (now.prices[god] == v) {
            return deny(NOT_SO);
        }
        act();
        now.prices[god] = v;
        return allow();
    }

    public boolean send(int god, int thing, int other) {
        if (!isGod(god) || !isThing(thing) || (other != NOTHING && !isGod(other))) {
            return deny(NO_SUCH);
        }
        if (other == god || now.sentTo(god, thing) == other) {
            return deny(NOT_SO);
        }
        act();
        now.sendTo(god, thing, other);
        return allow();
    }

    public boolean changes(int village, int god) {
        if (!isVillage(village) || !isGod(god)) {
            return deny(NO_SUCH);
        }
        if (now.saints[village] == god) {
            return deny(NOT_SO);
        }
        act();
        now.saints[village] = god;
        return allow();
    }

    public boolean seed(int v) {
        if (!land.stands()) {
            return deny(NO_SUCH);
        }
        if (v < 0 || v >= SEEDS) {
            return deny(BAD_NUMBER);
        }
        now.seed = v;
        return allow();
    }

    public boolean undo() {
        if (!past.takeBack(now)) {
            return deny(EMPTY);
        }
        stale = true;
        return allow();
    }

    public int mark() {
        if (!land.stands()) {
            return refuse(NO_SUCH);
        }
        int number = past.setMark(now);
        return number == NONE ? refuse(NO_ROOM) : answer(number);
    }

    public boolean back(int mark) {
        if (!past.goBack(mark, now)) {
            return deny(NO_SUCH);
        }
        stale = true;
        return allow();
    }

    // ---- what is told

    public int god(int g, int what) {
        if (!isGod(g) || what < 0 || what > 5) {
            return refuse(NO_SUCH);
        }
        return answer(factOfGod(g, what));
    }

    public int sends(int god, int thing) {
        if (!isGod(god) || !isThing(thing)) {
            return refuse(NO_SUCH);
        }
        return answer(now.sentTo(god, thing));
    }

    public int bars(int god, int other) {
        if (!isGod(god) || !isGod(other) || god == other) {
            return refuse(NO_SUCH);
        }
        return answer(bit(land.isBarred(god, other)));
    }

    public int prayer(int p, int what) {
        if (!isPrayer(p) || what < 0 || what >= PRAYER_FACTS) {
            return refuse(NO_SUCH);
        }
        return answer(land.ofPrayer(p, what));
    }

    public int village(int v, int what) {
        if (!isVillage(v) || what < 0 || what > 1) {
            return refuse(NO_SUCH);
        }
        return answer(what == 0 ? land.homes[v] : now.saints[v]);
    }

    public int led(int i) throws NoSuchElementException {
        int prayer = i < 0 ? NONE : current().grantedAt(i);
        if (prayer == NONE) {
            throw new NoSuchElementException("no such prayer is granted");
        }
        return prayer;
    }

    public int size(int what) {
        switch (what) {
            case 0:
                return land.wide;
            case 1:
                return land.high;
            case 2:
                return land.law;
            case 3:
                return land.things();
            case 4:
                return land.gods();
            case 5:
                return land.counts[HOLDS];
            case 6:
                return land.prayers();
            case 7:
                return land.counts[CLASH];
            case 8:
                return land.villages();
            case 9:
                return land.counts[SPELL];
            case 10:
                return land.counts[SAW];
            case 11:
                return now.seed;
            case 12:
                return past.kept;
            case 13:
                return past.marked;
            case 14:
                return reader.tape.fed;
            default:
                return NONE;
        }
    }

    public int trouble() {
        return trouble;
    }

    // ---- behind the face

    private int refuse(int number) {
        trouble = number;
        return NONE;
    }

    private int answer(int value) {
        trouble = 0;
        return value;
    }

    private boolean deny(int number) {
        trouble = number;
        return false;
    }

    private boolean allow() {
        trouble = 0;
        return true;
    }

    private static int bit(boolean is) {
        return is ? 1 : 0;
    }

    private boolean isGod(int god) {
        return god >= 0 && god < land.gods();
    }

    private boolean isThing(int thing) {
        return thing >= 0 && thing < land.things();
    }

    private static boolean isSoil(int soil) {
        return soil >= 0 && soil < SOILS;
    }

    private static boolean isHour(int hour) {
        return hour >= 0 && hour < HOURS;
    }

    private boolean isPrayer(int prayer) {
        return prayer >= 0 && prayer < land.prayers();
    }

    private boolean isVillage(int village) {
        return village >= 0 && village < land.villages();
    }

    /** Keeps what is, ahead of an ACT that is sure to be done. */
    private void act() {
        past.keepAct(now);
        stale = true;
    }

    /** THE DAYS by the LAND's own LAW, gone through again only if something has changed. */
    private Days current() {
        if (stale) {
            days.run(land, now, land.law, NONE, NONE);
            stale = false;
        }
        return days;
    }

    private int grantedAlone(int prayer, int god) {
        trial.run(land, now, land.law, prayer, god);
        return trial.fates[prayer] == GRANTED ? trial.ended[prayer] : NOTHING;
    }

    private int bestStart(int prayer) {
        int best = NOTHING;
        int soonest = DAYS;
        for (int god = 0; god < land.gods(); god++) {
            int hour = grantedAlone(prayer, god);
            if (hour != NOTHING && hour < soonest) {
                soonest = hour;
                best = god;
            }
        }
        return best;
    }

    private int ringOf(int prayer) {
        int thing = land.ofPrayer(prayer, WHAT);
        int meeting = walk(land.ofPrayer(prayer, WITH), thing, GODS);
        if (meeting == NOTHING) {
            return NOTHING;
        }
        // So many steps lead into the ring from wherever the way began: now it is gone round once.
        int god = meeting;
        for (int gods = 1; gods <= GODS; gods++) {
            god = walk(god, thing, 1);
            if (god == meeting) {
                return gods;
            }
        }
        return NOTHING;
    }

    /** To whom the sendings lead from a GOD in so many steps; NOTHING if they end ahead of that. */
    private int walk(int from, int thing, int steps) {
        int god = from;
        for (int i = 0; i < steps && god != NOTHING; i++) {
            god = land.onward(god, thing, now);
        }
        return god;
    }

    private int whyNothingToAsk() {
        if (!land.stands()) {
            return NO_SUCH;
        }
        return Integer.bitCount(Sights.fitting(land)) < 2 ? EMPTY : 0;
    }

    private int factOfGod(int god, int what) {
        switch (what) {
            case 0:
                return land.kinds[god];
            case 1:
                return now.prices[god];
            case 2:
                return land.served[god];
            case 3:
                return land.froms[god];
            case 4:
                return land.tos[god];
            default:
                return bit(land.isAsleep(god, now));
        }
    }

    /** All that ACTS change, held apart from the LAND so that undoing and going back are mere copies. */
    private static final class State {
        int seed;
        int lulled;
        final int[] prices = new int[GODS];
        final int[] sendings = new int[GODS * THINGS];
        final int[] saints = new int[VILLAGES];

        void clear() {
            seed = 0;
            lulled = 0;
            Arrays.fill(prices, 0);
            Arrays.fill(sendings, NOTHING);
            Arrays.fill(saints, 0);
        }

        void copy(State other) {
            seed = other.seed;
            lulled = other.lulled;
            System.arraycopy(other.prices, 0, prices, 0, GODS);
            System.arraycopy(other.sendings, 0, sendings, 0, GODS * THINGS);
            System.arraycopy(other.saints, 0, saints, 0, VILLAGES);
        }

        /** Put to sleep by an ACT; one ASLEEP by KIND may be that too, and stays ASLEEP when woken. */
        boolean isLulled(int god) {
            return (lulled >> god & 1) == 1;
        }

        void turn(int god) {
            lulled ^= 1 << god;
        }

        int draw() {
            seed = (75 * seed + 74) % SEEDS;
            return seed;
        }

        int sentTo(int god, int thing) {
            return sendings[god * THINGS + thing];
        }

        void sendTo(int god, int thing, int other) {
            sendings[god * THINGS + thing] = other;
        }
    }

    /** The states that can be come back to: ahead of the latest ACTS, and by MARKS. */
    private static final class Past {
        final State[] acts = new State[ACTS];
        final State[] marks = new State[MARKS];
        int first;
        int kept;
        int marked;

        Past() {
            for (int i = 0; i < ACTS; i++) {
                acts[i] = new State();
            }
            for (int i = 0; i < MARKS; i++) {
                marks[i] = new State();
            }
        }

        void forgetAll() {
            kept = 0;
            marked = 0;
        }

        void keepAct(State now) {
            if (kept == ACTS) {
                first = (first + 1) % ACTS;
                kept--;
            }
            acts[(first + kept) % ACTS].copy(now);
            kept++;
        }

        boolean takeBack(State now) {
            if (kept == 0) {
                return false;
            }
            kept--;
            now.copy(acts[(first + kept) % ACTS]);
            return true;
        }

        int setMark(State now) {
            if (marked >= MARKS) {
                return NONE;
            }
            marks[marked].copy(now);
            marked++;
            return marked - 1;
        }

        boolean goBack(int mark, State now) {
            if (mark < 0 || mark >= marked) {
                return false;
            }
            now.copy(marks[mark]);
            kept = 0;
            return true;
        }
    }

    /** What the text tells and no ACT changes, and the State in which it begins. */
    private static final class Land {
        int wide;
        int high;
        int law;
        int luck;
        final int[] counts = new int[ROOM.length];
        final int[] cells = new int[CELLS];
        final int[] kinds = new int[GODS];
        final int[] served = new int[GODS];
        final int[] froms = new int[GODS];
        final int[] tos = new int[GODS];
        /** Of each GOD, THING and SOIL the hours as bits. */
        final int[] offices = new int[GODS * THINGS * SOILS];
        /** Of each GOD those whom he bars, as bits. */
        final int[] barred = new int[GODS];
        final int[] asked = new int[PRAYERS * PRAYER_FACTS];
        /** Of each PRAYER those with which it clashes, as bits. */
        final int[] clashing = new int[PRAYERS];
        final int[] homes = new int[VILLAGES];
        final int[] sorts = new int[SPELLS];
        final int[] amounts = new int[SPELLS];
        final int[] seen = new int[SIGHTS * SIGHT_FACTS];
        final State told = new State();

        void clear() {
            wide = 0;
            high = 0;
            law = 0;
            luck = 0;
            Arrays.fill(counts, 0);
            Arrays.fill(cells, 0);
            Arrays.fill(offices, 0);
            Arrays.fill(barred, 0);
            Arrays.fill(clashing, 0);
            told.clear();
        }

        boolean stands() {
            return counts[LAND] > 0;
        }

        int things() {
            return counts[THING];
        }

        int gods() {
            return counts[GOD];
        }

        int prayers() {
            return counts[PRAYER];
        }

        int villages() {
            return counts[VILLAGE];
        }

        int groundOf(int cell) {
            return cell >= 0 && cell < CELLS ? cells[cell] : 0;
        }

        int ofPrayer(int prayer, int what) {
            return asked[prayer * PRAYER_FACTS + what];
        }

        /** The SOILS that some CELL has, as bits. */
        int grounds() {
            int bits = 0;
            for (int cell = 0; cell < wide * high && cell < CELLS; cell++) {
                bits |= 1 << cells[cell];
            }
            return bits;
        }

        int hoursOf(int god, int thing, int soil) {
            return offices[(god * THINGS + thing) * SOILS + soil];
        }

        void addHours(int god, int thing, int soil, int hours) {
            offices[(god * THINGS + thing) * SOILS + soil] |= hours;
        }

        boolean holds(int god, int thing, int soil, int hour) {
            return (offices[(god * THINGS + thing) * SOILS + soil] >> hour & 1) == 1;
        }

        int holders(int thing, int soil, int hour) {
            int bits = 0;
            for (int god = 0; god < gods(); god++) {
                if (holds(god, thing, soil, hour)) {
                    bits |= 1 << god;
                }
            }
            return bits;
        }

        boolean isBarred(int god, int other) {
            return (barred[god] >> other & 1) == 1;
        }

        boolean isAsleep(int god, State now) {
            return kinds[god] == BY_KIND_ASLEEP || now.isLulled(god);
        }

        /** Whether a GOD is IN in an hour of the day. */
        boolean receives(int god, int hour, State now) {
            return !isAsleep(god, now) && froms[god] <= hour && hour < tos[god];
        }

        /** To whom a GOD sends a THING, if he speaks with him. */
        int onward(int god, int thing, State now) {
            int other = now.sentTo(god, thing);
            return other == NOTHING || isBarred(god, other) ? NOTHING : other;
        }
    }

    /** THE TAPE, and its TOKENS one at a time. */
    private static final class Tape {
        static final int END = 0;
        static final int BAD = 1;
        static final int WORD = 2;
        static final int WHOLE = 3;
        static final int SIGN = 4;
        static final int LONGEST_WORD = 8;
        static final int LONGEST_WHOLE = 3;

        final byte[] bytes = new byte[TAPE];
        int fed;
        int end;
        int next;
        /** Of the latest TOKEN, the one that is looked at. */
        int sort;
        int place;
        int length;
        int value;
        /** Tells WORDS apart: five bits a letter, of which none is 0. */
        long code;
        /** The place of the TOKEN ahead of that. */
        int behind;

        void append(int four) {
            for (int shift = 24; shift >= 0; shift -= 8) {
                if (fed < TAPE) {
                    bytes[fed] = (byte) (four >> shift);
                    fed++;
                }
            }
        }

        void begin(int n) {
            end = n < 0 ? 0 : Math.min(n, TAPE);
            fed = 0;
            next = 0;
            advance();
        }

        void advance() {
            while (next < end && bytes[next] == ' ') {
                next++;
            }
            behind = place;
            place = next;
            length = 0;
            int sign = next < end ? bytes[next] : 0;
            if (next >= end) {
                sort = END;
            } else if (sign >= 'a' && sign <= 'z') {
                take('a', 'z');
                sort = length > LONGEST_WORD ? BAD : WORD;
            } else if (sign >= '0' && sign <= '9') {
                take('0', '9');
                sort = length > LONGEST_WHOLE ? BAD : WHOLE;
            } else {
                sort = sign == ';' || sign == ',' ? SIGN : BAD;
                value = sign;
                next++;
            }
        }

        /** Takes all that stand together of a sort: if they are too many, none of them begins a TOKEN. */
        private void take(int first, int last) {
            value = 0;
            code = 0;
            while (next < end && bytes[next] >= first && bytes[next] <= last) {
                value = value * 10 + (bytes[next] - first);
                code = code * 32 + (bytes[next] - first + 1);
                next++;
            }
            length = next - place;
        }

        /** Which of some WORDS, parted by single blanks, this TOKEN is; NONE if it is none of them. */
        int choice(String words) {
            if (sort != WORD) {
                return NONE;
            }
            int index = 0;
            long each = 0;
            for (int i = 0; i < words.length(); i++) {
                int sign = words.charAt(i);
                if (sign != ' ') {
                    each = each * 32 + (sign - 'a' + 1);
                } else if (each == code) {
                    return index;
                } else {
                    index++;
                    each = 0;
                }
            }
            return each == code ? index : NONE;
        }

        int letter(int i) {
            int index = place + i;
            return index >= 0 && index < end ? bytes[index] : 0;
        }
    }

    /** Reads the text of a LAND from the left, up to its end or its first FAULT. */
    private static final class Reader {
        final Tape tape = new Tape();
        final long[] names = new long[NAMES];
        final int[] sorts = new int[NAMES];
        final int[] numbers = new int[NAMES];
        Land land = new Land();
        int told;
        int value;
        int fault;
        int place;

        /** Gives the LAND that was read, and takes another to read into. */
        Land swap(Land other) {
            Land read = land;
            land = other;
            return read;
        }

        /** THE TAPE is empty behind it. */
        boolean read(int n) {
            land.clear();
            told = 0;
            fault = 0;
            place = 0;
            tape.begin(n);
            for (int lines = 0; lines <= n; lines++) {
                int sort = opening();
                if (sort == NONE || !behindWord(sort)) {
                    return false;
                }
                land.counts[sort]++;
                if (tape.sort == Tape.END) {
                    return isWhole();
                }
                if (!sign(';')) {
                    return false;
                }
            }
            return fail(FAULT_FORM);
        }

        private boolean isWhole() {
            boolean lacks = land.counts[ROW] < land.high || land.things() == 0 || land.gods() == 0;
            return !lacks || fail(FAULT_LACKS);
        }

        /** The sort of a LINE, by its WORD; NONE if it may not begin here. */
        private int opening() {
            int sort = tape.choice(RESERVED);
            int number = 0;
            if (sort == NONE || sort == ANY) {
                number = FAULT_FORM;
            } else if (sort != LAND && !land.stands()) {
                number = FAULT_LACKS;
            } else if ((sort == LAND || sort == LUCK) && land.counts[sort] > 0) {
                number = FAULT_AGAIN;
            } else if (land.counts[sort] >= (sort == ROW ? land.high : ROOM[sort])) {
                number = FAULT_MANY;
            }
            if (number != 0) {
                fail(number);
                return NONE;
            }
            tape.advance();
            return sort;
        }

        private boolean behindWord(int sort) {
            switch (sort) {
                case LAND:
                    return landLine();
                case ROW:
                    return rowLine();
                case THING:
                    return tell(THING);
                case LUCK:
                    return luckLine();
                case GOD:
                    return godLine();
                case HOLDS:
                    return holdsLine();
                case SENDS:
                    return sendsLine();
                case BARS:
                    return barsLine();
                case PRAYER:
                    return prayerLine();
                case CLASH:
                    return clashLine();
                case VILLAGE:
                    return villageLine();
                case SPELL:
                    return spellLine();
                default:
                    return sawLine();
            }
        }

        private boolean landLine() {
            if (!word("wide") || !whole(2, 6)) {
                return false;
            }
            land.wide = value;
            if (!word("high") || !whole(1, 4)) {
                return false;
            }
            land.high = value;
            if (!word("law") || !pick("first gift need")) {
                return false;
            }
            land.law = value;
            return true;
        }

        private boolean rowLine() {
            if (tape.sort != Tape.WORD) {
                return fail(FAULT_FORM);
            }
            if (tape.length != land.wide) {
                return fail(FAULT_SOIL);
            }
            int row = land.counts[ROW] * land.wide;
            for (int x = 0; x < land.wide; x++) {
                int soil = tape.letter(x) - 'a';
                if (soil < 0 || soil >= SOILS || row + x >= CELLS) {
                    return fail(FAULT_SOIL);
                }
                land.cells[row + x] = soil;
            }
            tape.advance();
            return true;
        }

        private boolean luckLine() {
            if (!whole(0, 99)) {
                return false;
            }
            land.luck = value;
            return true;
        }

        private boolean godLine() {
            int god = land.gods();
            if (!tell(GOD) || !pick("plain proud jealous asleep")) {
                return false;
            }
            land.kinds[god] = value;
            if (!word("price") || !whole(0, TOP_PRICE)) {
                return false;
            }
            land.told.prices[god] = value;
            if (!word("serves") || !whole(1, 9)) {
                return false;
            }
            land.served[god] = value;
            if (!word("from") || !whole(0, HOURS - 1)) {
                return false;
            }
            land.froms[god] = value;
            if (!word("to") || !whole(land.froms[god] + 1, HOURS)) {
                return false;
            }
            land.tos[god] = value;
            return true;
        }

        private boolean holdsLine() {
            if (!use(GOD)) {
                return false;
            }
            int god = value;
            int thing = NOTHING;
            if (tape.choice("any") != NONE) {
                tape.advance();
            } else if (use(THING)) {
                thing = value;
            } else {
                return false;
            }
            if (!ground(true)) {
                return false;
            }
            int soil = value;
            if (!whole(0, HOURS - 1)) {
                return false;
            }
            int from = value;
            if (!word("to") || !whole(from + 1, HOURS)) {
                return false;
            }
            hold(god, thing, soil, (1 << value) - (1 << from));
            return true;
        }

        /** Things that are told only behind a LINE holds with any are held by it too: it tells of any. */
        private void hold(int god, int thing, int soil, int hours) {
            for (int t = 0; t < THINGS; t++) {
                for (int s = 0; s < SOILS; s++) {
                    if ((thing == NOTHING || thing == t) && (soil == NOTHING || soil == s)) {
                        land.addHours(god, t, s, hours);
                    }
                }
            }
        }

        private boolean sendsLine() {
            if (!use(GOD)) {
                return false;
            }
            int god = value;
            if (!use(THING)) {
                return false;
            }
            int thing = value;
            if (land.told.sentTo(god, thing) != NOTHING) {
                return failBehind(FAULT_AGAIN);
            }
            if (!use(GOD)) {
                return false;
            }
            if (value == god) {
                return failBehind(FAULT_AGAIN);
            }
            land.told.sendTo(god, thing, value);
            return true;
        }

        private boolean barsLine() {
            if (!use(GOD)) {
                return false;
            }
            int god = value;
            if (!use(GOD)) {
                return false;
            }
            if (value == god || land.isBarred(god, value)) {
                return failBehind(FAULT_AGAIN);
            }
            land.barred[god] |= 1 << value;
            return true;
        }

        private boolean prayerLine() {
            int row = land.prayers() * PRAYER_FACTS;
            int[] asked = land.asked;
            if (!tell(PRAYER) || !use(THING)) {
                return false;
            }
            asked[row + WHAT] = value;
            if (!cell()) {
                return false;
            }
            asked[row + CELL] = value;
            if (!word("hour") || !whole(0, HOURS - 1)) {
                return false;
            }
            asked[row + HOUR] = value;
            if (!word("starts") || !use(GOD)) {
                return false;
            }
            asked[row + WITH] = value;
            if (!whole(0, HOURS - 1)) {
                return false;
            }
            asked[row + BEGINS] = value;
            if (!word("gift") || !whole(0, 99)) {
                return false;
            }
            asked[row + GIFT] = value;
            if (!word("need") || !whole(0, 99)) {
                return false;
            }
            asked[row + NEED] = value;
            return true;
        }

        private boolean clashLine() {
            if (!use(PRAYER)) {
                return false;
            }
            int prayer = value;
            if (!use(PRAYER)) {
                return false;
            }
            if (value == prayer || (land.clashing[prayer] >> value & 1) == 1) {
                return failBehind(FAULT_AGAIN);
            }
            land.clashing[prayer] |= 1 << value;
            land.clashing[value] |= 1 << prayer;
            return true;
        }

        private boolean villageLine() {
            int village = land.villages();
            if (!tell(VILLAGE) || !cell()) {
                return false;
            }
            land.homes[village] = value;
            if (!word("saint") || !use(GOD)) {
                return false;
            }
            land.told.saints[village] = value;
            return true;
        }

        private boolean spellLine() {
            int spell = land.counts[SPELL];
            if (!pick("adds takes times shares")) {
                return false;
            }
            land.sorts[spell] = value;
            if (!whole(1, 9)) {
                return false;
            }
            land.amounts[spell] = value;
            return true;
        }

        private boolean sawLine() {
            int row = land.counts[SAW] * SIGHT_FACTS;
            if (!use(THING)) {
                return false;
            }
            land.seen[row] = value;
            if (!ground(false)) {
                return false;
            }
            land.seen[row + 1] = value;
            if (!whole(0, HOURS - 1)) {
                return false;
            }
            land.seen[row + 2] = value;
            if (!pick("no yes")) {
                return false;
            }
            land.seen[row + 3] = value;
            return true;
        }

        /** at x, y: the CELL's number. */
        private boolean cell() {
            if (!word("at") || !whole(0, land.wide - 1)) {
                return false;
            }
            int x = value;
            if (!sign(',') || !whole(0, land.high - 1)) {
                return false;
            }
            value = land.wide * value + x;
            return true;
        }

        private boolean ground(boolean orAny) {
            if (tape.sort != Tape.WORD) {
                return fail(FAULT_FORM);
            }
            int soil = tape.choice("a b c d e any");
            if (soil == NONE || (soil == SOILS && !orAny)) {
                return fail(FAULT_SOIL);
            }
            value = soil == SOILS ? NOTHING : soil;
            tape.advance();
            return true;
        }

        private boolean word(String word) {
            if (tape.choice(word) == NONE) {
                return fail(FAULT_FORM);
            }
            tape.advance();
            return true;
        }

        private boolean pick(String words) {
            value = tape.choice(words);
            if (value == NONE) {
                return fail(FAULT_FORM);
            }
            tape.advance();
            return true;
        }

        private boolean sign(int sign) {
            if (tape.sort != Tape.SIGN || tape.value != sign) {
                return fail(FAULT_FORM);
            }
            tape.advance();
            return true;
        }

        private boolean whole(int low, int high) {
            if (tape.sort != Tape.WHOLE) {
                return fail(FAULT_FORM);
            }
            if (tape.value < low || tape.value > high) {
                return fail(FAULT_BOUNDS);
            }
            value = tape.value;
            tape.advance();
            return true;
        }

        private boolean isName() {
            return tape.sort == Tape.WORD && tape.choice(RESERVED) == NONE;
        }

        private int find(long name) {
            for (int i = 0; i < told; i++) {
                if (names[i] == name) {
                    return i;
                }
            }
            return NONE;
        }

        /** A NAME that is told here. */
        private boolean tell(int sort) {
            if (!isName()) {
                return fail(FAULT_FORM);
            }
            if (find(tape.code) != NONE) {
                return fail(FAULT_AGAIN);
            }
            if (told >= NAMES) {
                return fail(FAULT_MANY);
            }
            names[told] = tape.code;
            sorts[told] = sort;
            numbers[told] = land.counts[sort];
            told++;
            tape.advance();
            return true;
        }

        /** A NAME that must have been told, of a sort. */
        private boolean use(int sort) {
            if (!isName()) {
                return fail(FAULT_FORM);
            }
            int i = find(tape.code);
            if (i == NONE || sorts[i] != sort) {
                return fail(FAULT_UNTOLD);
            }
            value = numbers[i];
            tape.advance();
            return true;
        }

        private boolean fail(int number) {
            fault = number;
            place = tape.place;
            return false;
        }

        /** A FAULT at the TOKEN that was read last. */
        private boolean failBehind(int number) {
            fault = number;
            place = tape.behind;
            return false;
        }
    }

    /** THE DAYS, gone through hour by hour with all PRAYERS, or with one ALONE. */
    private static final class Days {
        /** At most one altar an hour, and the one to which the last hour sends. */
        static final int STEPS = DAYS + 1;

        final int[] fates = new int[PRAYERS];
        final int[] ended = new int[PRAYERS];
        final int[] due = new int[PRAYERS];
        final int[] weights = new int[PRAYERS];
        final int[] at = new int[PRAYERS];
        final int[] came = new int[PRAYERS];
        final int[] waited = new int[PRAYERS];
        final int[] steps = new int[PRAYERS];
        /** The GODS at whose altars a PRAYER was, as bits. */
        final int[] been = new int[PRAYERS];
        final byte[] ways = new byte[PRAYERS * STEPS];
        final byte[] queues = new byte[GODS * DAYS];
        int open;

        /** One PRAYER only, begun with a GOD; or, if that is NONE, all as they are told. */
        void run(Land land, State now, int law, int only, int god) {
            begin(land, law, only, god);
            for (int hour = 0; hour < DAYS; hour++) {
                for (int g = 0; g < land.gods() && open > 0; g++) {
                    if (land.receives(g, hour % HOURS, now)) {
                        serve(land, now, g, hour);
                    }
                }
                countQueues(hour);
            }
            for (int p = 0; p < PRAYERS; p++) {
                if (fates[p] == LOST) {
                    waited[p] += DAYS - came[p];
                }
            }
        }

        /** Every PRAYER is at its first altar from the first, but stands there only from its coming on. */
        private void begin(Land land, int law, int only, int god) {
            open = 0;
            for (int p = 0; p < PRAYERS; p++) {
                boolean prays = p < land.prayers() && (only == NONE || only == p);
                fates[p] = prays ? LOST : ABSENT;
                ended[p] = NOTHING;
                waited[p] = 0;
                steps[p] = 0;
                been[p] = 0;
                if (prays) {
                    open++;
                    due[p] = land.ofPrayer(p, HOUR);
                    weights[p] = weight(land, law, p);
                    come(p, only == NONE ? land.ofPrayer(p, WITH) : god, land.ofPrayer(p, BEGINS));
                }
            }
        }

        /** By the law first all weigh alike, so that only their coming parts them. */
        private static int weight(Land land, int law, int prayer) {
            if (law == BY_GIFT) {
                return land.ofPrayer(prayer, GIFT);
            }
            return law == BY_NEED ? land.ofPrayer(prayer, NEED) : 0;
        }

        private void come(int prayer, int god, int hour) {
            at[prayer] = god;
            came[prayer] = hour;
            been[prayer] |= 1 << god;
            if (steps[prayer] < STEPS) {
                ways[prayer * STEPS + steps[prayer]] = (byte) god;
                steps[prayer]++;
            }
        }

        private boolean standsAt(int prayer, int god, int hour) {
            return fates[prayer] == LOST && at[prayer] == god && came[prayer] <= hour;
        }

        private void countQueues(int hour) {
            for (int god = 0; god < GODS; god++) {
                queues[god * DAYS + hour] = 0;
            }
            for (int p = 0; p < PRAYERS && open > 0; p++) {
                if (standsAt(p, at[p], hour)) {
                    queues[at[p] * DAYS + hour]++;
                }
            }
        }

        private void serve(Land land, State now, int god, int hour) {
            for (int i = 0; i < land.served[god]; i++) {
                int prayer = foremost(god, hour);
                if (prayer == NONE) {
                    return;
                }
                judge(land, now, prayer, god, hour);
            }
        }

        private int foremost(int god, int hour) {
            int first = NONE;
            for (int p = 0; p < PRAYERS; p++) {
                if (standsAt(p, god, hour) && (first == NONE || goesAhead(p, first))) {
                    first = p;
                }
            }
            return first;
        }

        private boolean goesAhead(int prayer, int other) {
            if (weights[prayer] != weights[other]) {
                return weights[prayer] > weights[other];
            }
            return came[prayer] < came[other];
        }

        private void judge(Land land, State now, int prayer, int god, int hour) {
            waited[prayer] += hour - came[prayer];
            if (grants(land, now, prayer, god)) {
                settle(prayer, GRANTED, hour);
                return;
            }
            int other = land.onward(god, land.ofPrayer(prayer, WHAT), now);
            if (other == NOTHING) {
                settle(prayer, DEAD, hour);
            } else {
                come(prayer, other, hour + 1);
            }
        }

        private void settle(int prayer, int fate, int hour) {
            fates[prayer] = fate;
            ended[prayer] = hour;
            open--;
        }

        private boolean grants(Land land, State now, int prayer, int god) {
            int soil = land.groundOf(land.ofPrayer(prayer, CELL));
            boolean his = land.holds(god, land.ofPrayer(prayer, WHAT), soil, due[prayer]);
            if (!his || land.ofPrayer(prayer, GIFT) < now.prices[god]) {
                return false;
            }
            if (land.kinds[god] == PROUD) {
                return been[prayer] == 1 << god;
            }
            return land.kinds[god] != JEALOUS || (been[prayer] & land.barred[god]) == 0;
        }

        boolean isLate(int prayer) {
            return fates[prayer] == GRANTED && ended[prayer] > due[prayer];
        }

        int stepOf(int prayer, int i) {
            return i >= 0 && i < STEPS ? ways[prayer * STEPS + i] : NONE;
        }

        int queueOf(int god, int hour) {
            return queues[god * DAYS + hour];
        }

        /** 0 GRANTED ones, 1 LATE ones, 2 all WAITS, 3 DEAD ones. */
        int tally(int what) {
            int sum = 0;
            for (int p = 0; p < PRAYERS; p++) {
                if (what == 2) {
                    sum += waited[p];
                } else if (what == 1) {
                    sum += isLate(p) ? 1 : 0;
                } else if (fates[p] == (what == 0 ? GRANTED : DEAD)) {
                    sum++;
                }
            }
            return sum;
        }

        int grantedBits() {
            int bits = 0;
            for (int p = 0; p < PRAYERS; p++) {
                if (fates[p] == GRANTED) {
                    bits |= 1 << p;
                }
            }
            return bits;
        }

        /** The i-th PRAYER GRANTED, by numbers; NONE if there is none such. */
        int grantedAt(int i) {
            int passed = 0;
            for (int p = 0; p < PRAYERS; p++) {
                if (fates[p] == GRANTED) {
                    if (passed == i) {
                        return p;
                    }
                    passed++;
                }
            }
            return NONE;
        }
    }

    /** Whose the POINTS are, and the sets of GODS and of grants that are best. */
    private static final class Offices {
        static int all(Land land) {
            return land.things() * Integer.bitCount(land.grounds()) * HOURS;
        }

        /** How many POINTS two GODS both HAVE; one GOD told twice: how many he HAS. */
        static int held(Land land, int god, int other) {
            int grounds = land.grounds();
            int sum = 0;
            for (int thing = 0; thing < land.things(); thing++) {
                for (int soil = 0; soil < SOILS; soil++) {
                    if ((grounds >> soil & 1) == 1) {
                        sum += Integer.bitCount(land.hoursOf(god, thing, soil) & land.hoursOf(other, thing, soil));
                    }
                }
            }
            return sum;
        }

        /** How many POINTS so many GODS or more HAVE. */
        static int heldBy(Land land, int least) {
            int grounds = land.grounds();
            int sum = 0;
            for (int thing = 0; thing < land.things(); thing++) {
                for (int soil = 0; soil < SOILS; soil++) {
                    for (int hour = 0; hour < HOURS && (grounds >> soil & 1) == 1; hour++) {
                        if (Integer.bitCount(land.holders(thing, soil, hour)) >= least) {
                            sum++;
                        }
                    }
                }
            }
            return sum;
        }

        static int firstFree(Land land) {
            int grounds = land.grounds();
            for (int thing = 0; thing < land.things(); thing++) {
                for (int soil = 0; soil < SOILS; soil++) {
                    for (int hour = 0; hour < HOURS && (grounds >> soil & 1) == 1; hour++) {
                        if (land.holders(thing, soil, hour) == 0) {
                            return 1000 * thing + 100 * soil + hour;
                        }
                    }
                }
            }
            return NOTHING;
        }

        /** Of two sets the better one has fewer members; of like ones the first, as they are tried upwards. */
        private static boolean isFewer(int bits, int best) {
            return best == NOTHING || Integer.bitCount(bits) < Integer.bitCount(best);
        }

        /** KEEP, or, if no two may HAVE one POINT, ONCE. */
        static int fewestHolding(Land land, boolean apart) {
            int best = NOTHING;
            for (int bits = 0; bits < 1 << land.gods(); bits++) {
                if (isFewer(bits, best) && holdAll(land, bits, apart)) {
                    best = bits;
                }
            }
            return best;
        }

        private static boolean holdAll(Land land, int bits, boolean apart) {
            int grounds = land.grounds();
            for (int thing = 0; thing < land.things(); thing++) {
                for (int soil = 0; soil < SOILS; soil++) {
                    if ((grounds >> soil & 1) == 1 && !holdAllHours(land, bits, thing, soil, apart)) {
                        return false;
                    }
                }
            }
            return true;
        }

        private static boolean holdAllHours(Land land, int bits, int thing, int soil, boolean apart) {
            int wanted = 0;
            int held = 0;
            for (int god = 0; god < land.gods(); god++) {
                int hours = land.hoursOf(god, thing, soil);
                wanted |= hours;
                if ((bits >> god & 1) == 1) {
                    if (apart && (held & hours) != 0) {
                        return false;
                    }
                    held |= hours;
                }
            }
            return held == wanted;
        }

        private static boolean clash(Land land, int prayers) {
            for (int p = 0; p < land.prayers(); p++) {
                if ((prayers >> p & 1) == 1 && (land.clashing[p] & prayers) != 0) {
                    return true;
                }
            }
            return false;
        }

        static int mostTogether(Land land, Days days) {
            int granted = days.grantedBits();
            int best = 0;
            for (int bits = 1; bits < 1 << land.prayers(); bits++) {
                boolean more = Integer.bitCount(bits) > Integer.bitCount(best);
                if (more && (bits & ~granted) == 0 && !clash(land, bits)) {
                    best = bits;
                }
            }
            return best;
        }

        /** A GOD once offended may as well be so by all that he GRANTED: so sets of GODS are tried. */
        static int fewestOffended(Land land, Days days) {
            int granted = days.grantedBits();
            int best = NOTHING;
            for (int bits = 0; bits < 1 << land.gods(); bits++) {
                if (isFewer(bits, best) && !clash(land, notOf(bits, granted, land, days))) {
                    best = bits;
                }
            }
            return best;
        }

        /** The PRAYERS that none of some GODS GRANTED. */
        private static int notOf(int gods, int granted, Land land, Days days) {
            int others = granted;
            for (int p = 0; p < land.prayers(); p++) {
                if ((gods >> days.at[p] & 1) == 1) {
                    others &= ~(1 << p);
                }
            }
            return others;
        }
    }

    /** Villages with a row of saints, theirs or one that is tried. */
    private static final class Villages {
        final int[] row = new int[VILLAGES];
        /** What a village would have of a GOD who is saint of no other. */
        final int[] worths = new int[VILLAGES * GODS];
        int villages;
        int gods;

        void look(Land land, State now) {
            villages = land.villages();
            gods = land.gods();
            for (int v = 0; v < villages; v++) {
                row[v] = now.saints[v];
                int soil = land.groundOf(land.homes[v]);
                for (int god = 0; god < gods; god++) {
                    int sum = 0;
                    for (int thing = 0; thing < land.things(); thing++) {
                        sum += Integer.bitCount(land.hoursOf(god, thing, soil));
                    }
                    worths[v * GODS + god] = land.isAsleep(god, now) ? 0 : sum;
                }
            }
        }

        int contentWith(int village, int god) {
            int sharers = 1;
            for (int v = 0; v < villages; v++) {
                if (v != village && row[v] == god) {
                    sharers++;
                }
            }
            int worth = worths[village * GODS + god];
            return sharers > 1 ? worth / sharers : worth;
        }

        int bestFor(int village) {
            int best = 0;
            for (int god = 1; god < gods; god++) {
                if (contentWith(village, god) > contentWith(village, best)) {
                    best = god;
                }
            }
            return best;
        }

        boolean areAtRest() {
            for (int v = 0; v < villages; v++) {
                int content = contentWith(v, row[v]);
                for (int god = 0; god < gods; god++) {
                    if (contentWith(v, god) > content) {
                        return false;
                    }
                }
            }
            return true;
        }

        int countRests() {
            int rows = 1;
            for (int v = 0; v < villages; v++) {
                rows *= gods;
            }
            int sum = 0;
            for (int number = 0; number < rows; number++) {
                setRow(number);
                if (areAtRest()) {
                    sum++;
                }
            }
            return sum;
        }

        private void setRow(int number) {
            int digits = number;
            for (int v = 0; v < villages && gods > 0; v++) {
                row[v] = digits % gods;
                digits /= gods;
            }
        }
    }

    /** What spells leave of luck: in their order, and in all ORDERS. */
    private static final class Spells {
        /** As many as six spells have ORDERS. */
        static final int MOST_ENDS = 720;

        final int[] unlike = new int[MOST_ENDS];
        int found;
        int least;
        int greatest;
        boolean known;

        void forget() {
            known = false;
        }

        /** No ACT changes spells: all ORDERS are gone through once a LAND. */
        void learn(Land land) {
            if (known) {
                return;
            }
            found = 0;
            follow(this, land, land.luck, (1 << land.counts[SPELL]) - 1, 0);
            known = true;
        }

        private static void follow(Spells spells, Land land, int luck, int unused, int depth) {
            if (unused == 0 || depth >= SPELLS) {
                spells.note(luck);
                return;
            }
            for (int spell = 0; spell < SPELLS; spell++) {
                if ((unused >> spell & 1) == 1) {
                    follow(spells, land, cast(land, spell, luck), unused & ~(1 << spell), depth + 1);
                }
            }
        }

        private void note(int end) {
            least = found == 0 ? end : Math.min(least, end);
            greatest = found == 0 ? end : Math.max(greatest, end);
            for (int i = 0; i < found; i++) {
                if (unlike[i] == end) {
                    return;
                }
            }
            if (found < MOST_ENDS) {
                unlike[found] = end;
                found++;
            }
        }

        static int inOrder(Land land) {
            int luck = land.luck;
            for (int spell = 0; spell < land.counts[SPELL]; spell++) {
                luck = cast(land, spell, luck);
            }
            return luck;
        }

        private static int cast(Land land, int spell, int luck) {
            int amount = land.amounts[spell];
            switch (land.sorts[spell]) {
                case 0:
                    return luck + amount;
                case 1:
                    return Math.max(0, luck - amount);
                case 2:
                    return luck * amount;
                default:
                    return amount > 0 ? luck / amount : luck;
            }
        }
    }

    /** Which GOD it was that was seen, and what to pray for next. */
    private static final class Sights {
        int point;
        int most;

        static int fitting(Land land) {
            int bits = 0;
            for (int god = 0; god < land.gods(); god++) {
                if (isFitting(land, god)) {
                    bits |= 1 << god;
                }
            }
            return bits;
        }

        private static boolean isFitting(Land land, int god) {
            for (int i = 0; i < land.counts[SAW]; i++) {
                int row = i * SIGHT_FACTS;
                boolean has = land.holds(god, land.seen[row], land.seen[row + 1], land.seen[row + 2]);
                if (has != (land.seen[row + 3] == 1)) {
                    return false;
                }
            }
            return true;
        }

        void seek(Land land) {
            int fitting = fitting(land);
            int grounds = land.grounds();
            point = NOTHING;
            most = GODS + 1;
            for (int thing = 0; thing < land.things(); thing++) {
                for (int soil = 0; soil < SOILS; soil++) {
                    for (int hour = 0; hour < HOURS && (grounds >> soil & 1) == 1; hour++) {
                        int yes = Integer.bitCount(fitting & land.holders(thing, soil, hour));
                        int behind = Math.max(yes, Integer.bitCount(fitting) - yes);
                        if (behind < most) {
                            most = behind;
                            point = 1000 * thing + 100 * soil + hour;
                        }
                    }
                }
            }
        }
    }
}
