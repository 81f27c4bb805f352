/**
 * A reservoir wall, as ../shared/DOC.md promises it. The face is the public part of this class; what
 * it stands on is in the classes inside it, one for each kind of part that the document tells.
 */
public final class ReservoirWall {
    public static final int NONE = -1, UNKNOWN = -2000000001, OUTSIDE = -2000000002, STATE = -2000000003, FULL = -2000000004, FAILED = -2000000010;

    private static final int NULL = 1, INDEX = 2, SIZE = 3, CAST = 4, STORE = 5, ARITHMETIC = 6, HELD = 7, WORD = 8;

    private static final int SHORT = 0, INT = 1, FLOAT = 2, DOUBLE = 3, CHAR = 4, BYTE = 5, TRUTH = 6, LONG = 7;

    private static final int ROWS = 40, CELLS = 64, BEDS = 20, STRIPS = 16, THINGS = 40, RACKS = 20, PLACES = 16, CARDS = 20, BOXES = 10;

    private static final int GATES = 4, GAUGES = 6;

    private static final int BOX_ROW = 1, BOX_THING = 2, BOX_RACK = 3, BOX_BED = 4;

    private static final long NO_NUMBER = 0x7FF8000000000000L, INFINITE = 0x7FF0000000000000L, FRACTION = 0xFFFFFFFFFFFFFL;

    private static final long MOST_STOCK = 1000000000000000L, MOST_RIGHT = 1000000000000L;

    private final Row[] rows = new Row[ROWS];
    private int rowCount;
    private final Bed[] beds = new Bed[BEDS];
    private int bedCount;
    private final Thing[] things = new Thing[THINGS];
    private int thingCount;
    private final Rack[] racks = new Rack[RACKS];
    private int rackCount;
    private final Card[] cards = new Card[CARDS];
    private int cardCount;
    private final int[] boxWhats = new int[BOXES];
    private final int[] boxNumbers = new int[BOXES];
    private final Acts acts = new Acts();
    private final Lake water = new Lake();
    private final Charter charter = new Charter();
    private final Floods floods = new Floods();
    private final Book pages = new Book();
    private int lastFailure;
    private int lastWord;

    public ReservoirWall() {
    }

    // ---- rows, beds

    public int row(int kind, int n) {
        if (outOf(kind, SHORT, LONG) || n > CELLS) return OUTSIDE;
        if (rowCount >= ROWS) return FULL;
        if (n < 0) return fails(SIZE);
        return passes(keepRow(new Row(kind, n)));
    }

    public int put(int row, int i, long v) {
        if (nameless(row, rowCount)) return UNKNOWN;
        int failure = cellFailure(row, i);
        if (failure != 0) return fails(failure);
        rows[row].setWhole(i, v);
        return passes(1);
    }

    public int putReal(int row, int i, long bits) {
        if (nameless(row, rowCount)) return UNKNOWN;
        int failure = cellFailure(row, i);
        if (failure != 0) return fails(failure);
        Row to = rows[row];
        to.cells[i] = Row.cellOfReal(to.kind, bits);
        return passes(1);
    }

    public long get(int row, int i) {
        if (nameless(row, rowCount)) return UNKNOWN;
        int failure = cellFailure(row, i);
        if (failure != 0) return fails(failure);
        return passesLong(rows[row].wholeAt(i));
    }

    public long getReal(int row, int i) {
        if (nameless(row, rowCount)) return UNKNOWN;
        int failure = cellFailure(row, i);
        if (failure != 0) return fails(failure);
        return passesLong(rows[row].realAt(i));
    }

    public long raise(int row, int i, long v, boolean before) {
        if (nameless(row, rowCount)) return UNKNOWN;
        int failure = cellFailure(row, i);
        if (failure != 0) return fails(failure);
        Row of = rows[row];
        long was = of.wholeAt(i);
        of.cells[i] = Row.cellMore(of.kind, of.cells[i], v);
        return passesLong(before ? was : of.wholeAt(i));
    }

    public int join(int a, int b) {
        if (nameless(a, rowCount) || nameless(b, rowCount)) return UNKNOWN;
        if (a == NONE || b == NONE) return fails(NULL);
        Row first = rows[a];
        Row second = rows[b];
        int n = first.cells.length + second.cells.length;
        if (n > CELLS) return OUTSIDE;
        if (rowCount >= ROWS) return FULL;
        if (first.kind != second.kind) return fails(STORE);
        Row both = new Row(first.kind, n);
        System.arraycopy(first.cells, 0, both.cells, 0, first.cells.length);
        System.arraycopy(second.cells, 0, both.cells, first.cells.length, second.cells.length);
        return passes(keepRow(both));
    }

    public int shift(int from, int i, int to, int k, int n) {
        if (nameless(from, rowCount) || nameless(to, rowCount)) return UNKNOWN;
        if (from == NONE || to == NONE) return fails(NULL);
        Row source = rows[from];
        Row target = rows[to];
        if (source.kind != target.kind) return fails(STORE);
        if (!fits(i, n, source.cells.length) || !fits(k, n, target.cells.length)) return fails(INDEX);
        System.arraycopy(source.cells, i, target.cells, k, n);
        return passes(1);
    }

    public int like(int a, int b) {
        if (nameless(a, rowCount) || nameless(b, rowCount)) return UNKNOWN;
        if (a == NONE || b == NONE) return a == b ? 1 : 0;
        return rows[a].isLike(rows[b]) ? 1 : 0;
    }

    public int count(int row, int what) {
        if (nameless(row, rowCount)) return UNKNOWN;
        if (outOf(what, 0, 2)) return OUTSIDE;
        if (row == NONE) return fails(NULL);
        Row of = rows[row];
        if (what == 0) return passes(of.cells.length);
        return passes(what == 1 ? of.kind : of.notZero());
    }

    public int find(int row, long v) {
        if (nameless(row, rowCount)) return UNKNOWN;
        if (row == NONE) return fails(NULL);
        return passes(rows[row].lastOf(v));
    }

    public long mean(int row) {
        if (nameless(row, rowCount)) return UNKNOWN;
        if (row == NONE) return fails(NULL);
        Row of = rows[row];
        if (of.cells.length == 0) return fails(ARITHMETIC);
        return passesLong(of.wholesTogether() / of.cells.length);
    }

    public int bed(int kind, int strips, int cells) {
        if (kind != INT && kind != DOUBLE && kind != TRUTH) return OUTSIDE;
        if (strips > STRIPS || cells > CELLS) return OUTSIDE;
        if (bedCount >= BEDS) return FULL;
        if (strips < 0 || cells < NONE) return fails(SIZE);
        beds[bedCount] = new Bed(kind, strips);
        if (cells != NONE) beds[bedCount].fill(cells);
        bedCount++;
        return passes(bedCount - 1);
    }

    public int lay(int bed, int i, int row) {
        if (outOf(bed, 0, bedCount - 1) || nameless(row, rowCount)) return UNKNOWN;
        Bed on = beds[bed];
        if (outOf(i, 0, on.strips.length - 1)) return fails(INDEX);
        if (row != NONE && rows[row].kind != on.kind) return fails(STORE);
        on.strips[i] = row == NONE ? null : rows[row];
        return passes(1);
    }

    public long spot(int bed, int i, int j) {
        if (outOf(bed, 0, bedCount - 1)) return UNKNOWN;
        int failure = beds[bed].spotFailure(i, j);
        if (failure != 0) return fails(failure);
        return passesLong(beds[bed].strips[i].wholeAt(j));
    }

    public int setSpot(int bed, int i, int j, long v) {
        if (outOf(bed, 0, bedCount - 1)) return UNKNOWN;
        int failure = beds[bed].spotFailure(i, j);
        if (failure != 0) return fails(failure);
        beds[bed].strips[i].setWhole(j, v);
        return passes(1);
    }

    public int bare(int bed, int k) {
        if (outOf(bed, 0, bedCount - 1)) return UNKNOWN;
        return beds[bed].bareStrip(k);
    }

    // ---- things, racks, boxes, cards

    public int thing(int sort, int load) {
        if (outOf(sort, 0, 5) || outOf(load, 0, 1000)) return OUTSIDE;
        if (thingCount >= THINGS) return FULL;
        things[thingCount] = new Thing(sort, load);
        thingCount++;
        return thingCount - 1;
    }

    public int says(int thing, int ask) {
        if (nameless(thing, thingCount)) return UNKNOWN;
        if (outOf(ask, 0, 5)) return OUTSIDE;
        return told(thing, ask);
    }

    public int rack(int built, int n) {
        if (outOf(built, 0, 9) || n > PLACES) return OUTSIDE;
        if (rackCount >= RACKS) return FULL;
        if (n < 0) return fails(SIZE);
        racks[rackCount] = new Rack(built, n);
        rackCount++;
        return passes(rackCount - 1);
    }

    public int hang(int rack, int i, int thing) {
        if (nameless(rack, rackCount) || nameless(thing, thingCount)) return UNKNOWN;
        int failure = placeFailure(rack, i);
        if (failure != 0) return fails(failure);
        if (!mayHang(thing, racks[rack].built)) return fails(STORE);
        racks[rack].places[i] = thing;
        return passes(1);
    }

    public int down(int rack, int i, int as) {
        if (nameless(rack, rackCount)) return UNKNOWN;
        if (outOf(as, 0, 9)) return OUTSIDE;
        int failure = placeFailure(rack, i);
        if (failure != 0) return fails(failure);
        int thing = racks[rack].places[i];
        if (!mayHang(thing, as)) return fails(CAST);
        racks[rack].places[i] = NONE;
        return passes(thing);
    }

    public int hung(int rack, int i) {
        if (nameless(rack, rackCount)) return UNKNOWN;
        int failure = placeFailure(rack, i);
        if (failure != 0) return fails(failure);
        return passes(racks[rack].places[i]);
    }

    public int asked(int rack, int i, int ask) {
        if (nameless(rack, rackCount)) return UNKNOWN;
        if (outOf(ask, 0, 5)) return OUTSIDE;
        int failure = placeFailure(rack, i);
        if (failure != 0) return fails(failure);
        return told(racks[rack].places[i], ask);
    }

    public int haul(int from, int i, int to, int k, int n) {
        if (nameless(from, rackCount) || nameless(to, rackCount)) return UNKNOWN;
        if (from == NONE || to == NONE) return fails(NULL);
        int[] source = racks[from].places;
        int[] target = racks[to].places;
        if (!fits(i, n, source.length) || !fits(k, n, target.length)) return fails(INDEX);
        if (from == to) {
            System.arraycopy(source, i, target, k, n);
            return passes(n);
        }
        for (int j = 0; j < n; j++) {
            if (!mayHang(source[i + j], racks[to].built)) return failsWith(STORE, j);
            target[k + j] = source[i + j];
        }
        return passes(n);
    }

    public int box(int box, int what, int number) {
        if (outOf(box, 0, BOXES - 1)) return UNKNOWN;
        if (outOf(what, 0, BOX_BED)) return OUTSIDE;
        if (what != 0 && outOf(number, 0, boxable(what) - 1)) return UNKNOWN;
        boxWhats[box] = what;
        boxNumbers[box] = number;
        return 1;
    }

    public int isA(int box, int kind) {
        if (outOf(box, 0, BOXES - 1)) return UNKNOWN;
        if (outOf(kind, 0, 13)) return OUTSIDE;
        return boxIs(box, kind) ? 1 : 0;
    }

    public int taken(int box, int kind) {
        if (outOf(box, 0, BOXES - 1)) return UNKNOWN;
        if (outOf(kind, 0, 13)) return OUTSIDE;
        if (boxWhats[box] == 0) return passes(NONE);
        if (!boxIs(box, kind)) return fails(CAST);
        return passes(boxWhats[box] == BOX_THING ? boxNumbers[box] : boxLength(box));
    }

    public int used(int box) {
        if (outOf(box, 0, BOXES - 1)) return UNKNOWN;
        if (boxWhats[box] == 0) return fails(NULL);
        return passes(boxWhats[box] == BOX_THING ? things[boxNumbers[box]].weight() : boxLength(box));
    }

    public int card() {
        if (cardCount >= CARDS) return FULL;
        return keepCard(new Card());
    }

    public int field(int card, int f, long v) {
        if (nameless(card, cardCount)) return UNKNOWN;
        if (outOf(f, 0, Card.FIELDS - 1)) return OUTSIDE;
        if (card == NONE) return fails(NULL);
        cards[card].fields[f] = Row.cellOfWhole(Card.KINDS[f], v);
        return passes(1);
    }

    public long fieldOf(int card, int f) {
        if (nameless(card, cardCount)) return UNKNOWN;
        if (outOf(f, 0, Card.FIELDS - 1)) return OUTSIDE;
        if (card == NONE) return fails(NULL);
        return passesLong(cards[card].wholeAt(f));
    }

    public long raiseField(int card, int f, long v, boolean before) {
        if (nameless(card, cardCount)) return UNKNOWN;
        if (outOf(f, 0, Card.FIELDS - 1)) return OUTSIDE;
        if (card == NONE) return fails(NULL);
        Card of = cards[card];
        long was = of.wholeAt(f);
        of.fields[f] = Row.cellMore(Card.KINDS[f], of.fields[f], v);
        return passesLong(before ? was : of.wholeAt(f));
    }

    public int link(int card, int next, int thing) {
        if (nameless(card, cardCount) || nameless(next, cardCount) || nameless(thing, thingCount)) return UNKNOWN;
        if (card == NONE) return fails(NULL);
        cards[card].next = next;
        cards[card].thing = thing;
        return passes(1);
    }

    public int along(int card, int n) {
        if (nameless(card, cardCount)) return UNKNOWN;
        if (outOf(n, 0, 100)) return OUTSIDE;
        if (card == NONE) return fails(NULL);
        int at = card;
        for (int i = 0; i < n && at != NONE; i++) at = cards[at].next;
        return passes(at);
    }

    public int ring(int card) {
        if (nameless(card, cardCount)) return UNKNOWN;
        if (card == NONE) return fails(NULL);
        boolean[] seen = new boolean[CARDS];
        int at = card;
        for (int i = 0; i <= CARDS && at != NONE && !seen[at]; i++) {
            seen[at] = true;
            at = cards[at].next;
        }
        return passes(at);
    }

    public int cardAsk(int card, int ask) {
        if (nameless(card, cardCount)) return UNKNOWN;
        if (outOf(ask, 0, 5)) return OUTSIDE;
        if (card == NONE) return fails(NULL);
        return told(cards[card].thing, ask);
    }

    public int copy(int card) {
        if (nameless(card, cardCount)) return UNKNOWN;
        if (card == NONE) return fails(NULL);
        if (cardCount >= CARDS) return FULL;
        Card same = new Card();
        System.arraycopy(cards[card].fields, 0, same.fields, 0, Card.FIELDS);
        same.next = cards[card].next;
        same.thing = cards[card].thing;
        return passes(keepCard(same));
    }

    // ---- flows, sums

    public long flow(int row, int what) {
        if (nameless(row, rowCount)) return UNKNOWN;
        if (outOf(what, 0, 6)) return OUTSIDE;
        if (row == NONE) return fails(NULL);
        Row of = rows[row];
        if (!of.isOfReals()) return STATE;
        return passesLong(of.flowOf(what));
    }

    public int test(int row, int i, int j, int op, boolean denied) {
        if (nameless(row, rowCount)) return UNKNOWN;
        if (outOf(op, 0, 5)) return OUTSIDE;
        if (row == NONE) return fails(NULL);
        Row of = rows[row];
        if (!of.isOfReals()) return STATE;
        if (!of.hasCell(i) || !of.hasCell(j)) return fails(INDEX);
        return passes(holds(of.cells[i], of.cells[j], op) != denied ? 1 : 0);
    }

    public long quotient(long a, long b, int what) {
        if (outOf(what, 0, 5)) return OUTSIDE;
        if (what == 4) return passesLong(sumHeld(a, b));
        if (what == 5) return passesLong(differenceHeld(a, b));
        boolean asInts = what >= 2;
        long top = asInts ? (int) a : a;
        long by = asInts ? (int) b : b;
        if (by == 0) return fails(ARITHMETIC);
        long answer = what % 2 == 0 ? top / by : top % by;
        return passesLong(asInts ? (int) answer : answer);
    }

    // ---- acts

    public int step(int plan, int op, int a, int b, int c, int d) {
        if (outOf(plan, 0, Acts.PLANS - 1)) return UNKNOWN;
        if (!Acts.isStep(op, a, b, c, d)) return OUTSIDE;
        if (acts.counts[plan] >= Acts.STEPS) return FULL;
        acts.keepStep(plan, op, a, b, c, d);
        return acts.counts[plan];
    }

    public int wipe(int plan) {
        if (outOf(plan, 0, Acts.PLANS - 1)) return UNKNOWN;
        int had = acts.counts[plan];
        acts.counts[plan] = 0;
        return had;
    }

    public int act(int plan) {
        if (outOf(plan, 0, Acts.PLANS - 1)) return UNKNOWN;
        long outcome = acts.perform(rows, plan);
        if (outcome == Acts.FINE) return passes(0);
        int way = Acts.wayOf(outcome);
        if (way == Acts.ANSWERED) return passes(1);
        return failsWith(way, Acts.loadOf(outcome));
    }

    public int raised(int what) {
        switch (what) {
            case 0: return lastFailure;
            case 1: return lastWord;
            case 2: return acts.answer;
            case 3: return acts.begun;
            case 4: return acts.putBy;
            default: return OUTSIDE;
        }
    }

    public long stock(long n) {
        if (n < 0 || n > MOST_STOCK) return OUTSIDE;
        long was = acts.litres;
        acts.litres = n;
        return was;
    }

    public int gate(int gate, int what) {
        if (outOf(gate, 0, GATES - 1)) return UNKNOWN;
        if (outOf(what, 0, 1)) return OUTSIDE;
        return what == 0 ? acts.depths[gate] : acts.notches[gate];
    }

    public int signal(int i) {
        return outOf(i, 0, acts.signalCount - 1) ? NONE : acts.signals[i];
    }

    // ---- the lake

    public long table(int k) {
        if (outOf(k, 0, Lake.LINES)) return fails(INDEX);
        return passesLong(Lake.unitsAt(k));
    }

    public long turned(long bits) {
        if (!within(bits, 0.0, Lake.unitsAt(Lake.LINES))) return OUTSIDE;
        return bitsOf(Lake.levelOf(realOf(bits)));
    }

    public int reading(int gauge, long bits) {
        if (outOf(gauge, 0, GAUGES - 1)) return UNKNOWN;
        if (!noneOrWithin(bits, -1000.0, 1000.0)) return OUTSIDE;
        water.voices.next[gauge] = oneNoNumber(bits);
        return 1;
    }

    public int word(long bits) {
        if (!noneOrWithin(bits, 0.0, 100.0)) return OUTSIDE;
        water.voices.watchman = oneNoNumber(bits);
        return 1;
    }

    public int stuck(int gate, boolean is) {
        if (outOf(gate, 0, GATES - 1)) return UNKNOWN;
        boolean was = water.sticks[gate];
        water.sticks[gate] = is;
        return was ? 1 : 0;
    }

    public int hand(int gate, long bits) {
        if (outOf(gate, 0, GATES - 1)) return UNKNOWN;
        if (!noneOrWithin(bits, 0.0, 1.0)) return OUTSIDE;
        water.hands[gate] = oneNoNumber(bits);
        return 1;
    }

    public int rate(long bits) {
        if (!within(bits, 0.0, 1.0)) return OUTSIDE;
        water.mostTurn = realOf(bits);
        return 1;
    }

    public int run(long rain, long warmth) {
        if (!within(rain, 0.0, 1000000.0) || !within(warmth, -100.0, 100.0)) return OUTSIDE;
        water.takeStep(realOf(rain), realOf(warmth), charter);
        return water.steps;
    }

    public long lake(int what) {
        return outOf(what, 0, 13) ? OUTSIDE : water.bitsAbout(what);
    }

    public int heard(int gauge) {
        if (outOf(gauge, 0, GAUGES - 1)) return UNKNOWN;
        return water.steps == 0 ? NONE : water.voices.fates[gauge];
    }

    public int moved(int gate, int what) {
        if (outOf(gate, 0, GATES - 1)) return UNKNOWN;
        switch (what) {
            case 0: return water.moves[gate];
            case 1: return water.sticks[gate] ? 1 : 0;
            case 2: return noNumber(water.hands[gate]) ? 0 : 1;
            default: return OUTSIDE;
        }
    }

    public int about(int what) {
        switch (what) {
            case 0: return water.steps;
            case 1: return water.unheard;
            case 2: return rowCount;
            case 3: return bedCount;
            case 4: return thingCount;
            case 5: return rackCount;
            case 6: return cardCount;
            case 7: return acts.signalCount;
            case 8: return charter.ruleCount;
            case 9: return charter.rightCount;
            case 10: return pages.bookings;
            default: return OUTSIDE;
        }
    }

    // ---- rules, rights, floods

    public int rule(int rank, int from, int to, long low, long high, long out) {
        if (outOf(rank, 0, 99) || from < 0 || from > to || to > Charter.LAST_DAY) return OUTSIDE;
        if (noNumber(low) || noNumber(high) || !within(out, 0.0, 1000000.0)) return OUTSIDE;
        if (charter.ruleCount >= Charter.MOST) return FULL;
        return charter.keepRule(rank, from, to, realOf(low), realOf(high), realOf(out));
    }

    public int ruleAt(int day, long level) {
        if (outOf(day, 0, Charter.LAST_DAY) || noNumber(level)) return OUTSIDE;
        return charter.firstRule(day, realOf(level));
    }

    public int right(int rank, int share, long most) {
        if (outOf(rank, 0, 99) || outOf(share, 0, 1000) || most < 0 || most > MOST_RIGHT) return OUTSIDE;
        if (charter.rightCount >= Charter.MOST) return FULL;
        return charter.keepRight(rank, share, most);
    }

    public long part(long n) {
        if (n < 0 || n > MOST_STOCK) return OUTSIDE;
        return n - charter.leftOfParting(n);
    }

    public long has(int right) {
        return outOf(right, 0, charter.rightCount - 1) ? UNKNOWN : charter.have[right];
    }

    public long close() {
        long had = 0;
        for (int i = 0; i < charter.rightCount; i++) {
            had += charter.have[i];
            charter.have[i] = 0;
        }
        return had;
    }

    public int hours(int n) {
        if (outOf(n, 1, Floods.HOURS)) return OUTSIDE;
        int were = floods.span;
        floods.span = n;
        return were;
    }

    public int ahead(int run, int hour, long bits) {
        if (outOf(run, 0, Floods.RUNS - 1)) return UNKNOWN;
        if (outOf(hour, 0, Floods.HOURS - 1) || !noneOrWithin(bits, 0.0, 1000000.0)) return OUTSIDE;
        floods.tellInflow(run, hour, bits);
        return 1;
    }

    public int release(int k, long bits) {
        if (outOf(k, 0, Floods.RELEASES - 1)) return UNKNOWN;
        if (!noneOrWithin(bits, 0.0, 1000000.0)) return OUTSIDE;
        floods.tellRelease(k, bits);
        return 1;
    }

    public long routed(int run, int k, int hour) {
        if (outOf(run, 0, Floods.RUNS - 1) || !floods.hasRelease(k)) return UNKNOWN;
        if (outOf(hour, 0, floods.span - 1)) return OUTSIDE;
        if (floods.lacks(run)) return NO_NUMBER;
        return bitsOf(floods.volumeBehind(water.volume, run, k, hour));
    }

    public long regret(int k) {
        return floods.hasRelease(k) ? bitsOf(floods.regretOf(water.volume, k)) : UNKNOWN;
    }

    public int chosen() {
        return floods.leastRegret(water.volume);
    }

    public int peak(int run) {
        return outOf(run, 0, Floods.RUNS - 1) ? UNKNOWN : floods.peakHour(run);
    }

    public int chance(long mark, int part) {
        if (outOf(part, 0, 1) || noNumber(mark)) return OUTSIDE;
        return part == 0 ? floods.runsAbove(realOf(mark)) : floods.runsThatLackNot();
    }

    // ---- the book

    public int book(int row) {
        if (nameless(row, rowCount)) return UNKNOWN;
        if (row == NONE) return fails(NULL);
        if (rows[row].cells.length > Book.MOST_BYTES) return OUTSIDE;
        if (pages.bookings >= Book.MOST_BOOKINGS) return FULL;
        pages.write(rows[row]);
        return passes(pages.bookings);
    }

    public int pageByte(int page, int i) {
        if (outOf(page, 0, Book.PAGES - 1) || outOf(i, 0, Book.SIZE_OF_PAGE - 1)) return fails(INDEX);
        return passes(pages.byteAt(page, i));
    }

    public int damage(int page, int i, int mask) {
        if (outOf(mask, 1, 255)) return OUTSIDE;
        if (outOf(page, 0, Book.PAGES - 1) || outOf(i, 0, Book.SIZE_OF_PAGE - 1)) return fails(INDEX);
        pages.alter(page, i, mask);
        return passes(1);
    }

    public int tear(int page, int i) {
        if (outOf(page, 0, Book.PAGES - 1)) return UNKNOWN;
        if (outOf(i, 0, Book.SIZE_OF_PAGE)) return OUTSIDE;
        pages.clearFrom(page, i);
        return 1;
    }

    public int twin(int from, int to) {
        if (outOf(from, 0, Book.PAGES - 1) || outOf(to, 0, Book.PAGES - 1)) return UNKNOWN;
        pages.copyPage(from, to);
        return 1;
    }

    public int open() {
        return pages.pagesOf(Book.ROW_PAGE);
    }

    public int opened(int i, int what) {
        int page = pages.pageOfRow(i);
        if (page == NONE) return UNKNOWN;
        int n = pages.byteAt(page, 2);
        if (what == 0) return pages.numbers[page];
        if (what == 1) return n;
        if (what == 2) return page;
        return outOf(what, 10, 9 + n) ? OUTSIDE : pages.byteAt(page, what - 10 + Book.HEAD);
    }

    public int lost(int what, int k) {
        if (outOf(what, 0, 2)) return OUTSIDE;
        int fate = what == 0 ? Book.BROKEN_PAGE : what == 1 ? Book.UNLIKE_PAGE : Book.DOUBLED_PAGE;
        return k == -1 ? pages.pagesOf(fate) : pages.pageOf(fate, k);
    }

    // ---- what calls share

    private static boolean outOf(int n, int low, int high) {
        return n < low || n > high;
    }

    /** NONE is a name here: it stands for what is not there, and FAILS by NULL. */
    private static boolean nameless(int number, int many) {
        return number < NONE || number >= many;
    }

    private static boolean fits(int i, int n, int length) {
        return i >= 0 && n >= 0 && i <= length - n;
    }

    private int fails(int failure) {
        return failsWith(failure, 0);
    }

    private int failsWith(int failure, int itsWord) {
        lastFailure = failure;
        lastWord = itsWord;
        return FAILED - failure;
    }

    private int passes(int answer) {
        lastFailure = 0;
        lastWord = 0;
        return answer;
    }

    private long passesLong(long answer) {
        lastFailure = 0;
        lastWord = 0;
        return answer;
    }

    private int keepRow(Row made) {
        rows[rowCount] = made;
        rowCount++;
        return rowCount - 1;
    }

    private int keepCard(Card made) {
        cards[cardCount] = made;
        cardCount++;
        return cardCount - 1;
    }

    private int cellFailure(int row, int i) {
        if (row == NONE) return NULL;
        return rows[row].hasCell(i) ? 0 : INDEX;
    }

    private int placeFailure(int rack, int i) {
        if (rack == NONE) return NULL;
        return outOf(i, 0, racks[rack].places.length - 1) ? INDEX : 0;
    }

    private boolean mayHang(int thing, int built) {
        return thing == NONE || things[thing].isFor(built);
    }

    private int told(int thing, int ask) {
        if (thing == NONE) return fails(NULL);
        if (!things[thing].canTell(ask)) return fails(CAST);
        return passes(things[thing].tell(ask));
    }

    private int boxable(int what) {
        switch (what) {
            case BOX_ROW: return rowCount;
            case BOX_THING: return thingCount;
            case BOX_RACK: return rackCount;
            default: return bedCount;
        }
    }

    private boolean boxIs(int box, int kind) {
        int number = boxNumbers[box];
        switch (boxWhats[box]) {
            case BOX_ROW: return rows[number].kind == kind;
            case BOX_THING: return kind == 8 || kind == 9 && things[number].isFor(Thing.READS) || kind == 10 && things[number].isFor(Thing.WIRE);
            case BOX_RACK: return kind == 11 && racks[number].isForReads() || kind == 12 && racks[number].isForFloat();
            case BOX_BED: return kind == 13 && beds[number].kind == INT;
            default: return false;
        }
    }

    private int boxLength(int box) {
        int number = boxNumbers[box];
        switch (boxWhats[box]) {
            case BOX_ROW: return rows[number].cells.length;
            case BOX_RACK: return racks[number].places.length;
            default: return beds[number].strips.length;
        }
    }

    private static boolean holds(long left, long right, int op) {
        if (noNumber(left) || noNumber(right)) return op == 5;
        long a = rankOf(left);
        long b = rankOf(right);
        switch (op) {
            case 0: return a < b;
            case 1: return a <= b;
            case 2: return a > b;
            case 3: return a >= b;
            case 4: return a == b;
            default: return a != b;
        }
    }

    private static long sumHeld(long a, long b) {
        long sum = a + b;
        boolean over = ((a ^ sum) & (b ^ sum)) < 0;
        return over ? boundBy(a) : sum;
    }

    private static long differenceHeld(long a, long b) {
        long difference = a - b;
        boolean over = ((a ^ b) & (a ^ difference)) < 0;
        return over ? boundBy(a) : difference;
    }

    private static long boundBy(long a) {
        return a < 0 ? Long.MIN_VALUE : Long.MAX_VALUE;
    }

    // ---- reals by their bits: doubles never hold NO NUMBER here, so it is told by bits alone

    private static boolean noNumber(long bits) {
        return (bits & Long.MAX_VALUE) > INFINITE;
    }

    private static long oneNoNumber(long bits) {
        return noNumber(bits) ? NO_NUMBER : bits;
    }

    /** Orders bits as the numbers that they tell; 0.0 and -0.0 are alike. */
    private static long rankOf(long bits) {
        return bits >= 0 ? bits : -(bits & Long.MAX_VALUE);
    }

    private static boolean within(long bits, double low, double high) {
        if (noNumber(bits)) return false;
        double d = realOf(bits);
        return d >= low && d <= high;
    }

    private static boolean noneOrWithin(long bits, double low, double high) {
        return noNumber(bits) || within(bits, low, high);
    }

    /** The double that bits tell; of NO NUMBER, which callers look at first, 0.0. */
    private static double realOf(long bits) {
        if (noNumber(bits)) return 0.0;
        int field = (int) (bits >>> 52) & 0x7FF;
        long part = bits & FRACTION;
        double size = field == 0x7FF ? 0x1p1023 * 2.0 : scaled(field == 0 ? part : part | FRACTION + 1, Math.max(field, 1) - 1075);
        return bits < 0 ? -size : size;
    }

    /** Exact, as every step on the way has no more digits than the double at its end. */
    private static double scaled(long part, int exponent) {
        double size = part;
        int left = exponent;
        for (int i = 0; i < 20 && left >= 60; i++) {
            size = size * 0x1p60;
            left -= 60;
        }
        for (int i = 0; i < 20 && left <= -60; i++) {
            size = size * 0x1p-60;
            left += 60;
        }
        return left >= 0 ? size * (1L << left) : size / (1L << -left);
    }

    private static long bitsOf(double d) {
        if (d == 0.0) return 1.0 / d < 0.0 ? Long.MIN_VALUE : 0;
        long sign = d < 0.0 ? Long.MIN_VALUE : 0;
        double size = d < 0.0 ? -d : d;
        if (size > 0x1.fffffffffffffp1023) return sign | INFINITE;
        int exponent = 0;
        for (int i = 0; i < 20 && size >= 0x1p60; i++) {
            size = size * 0x1p-60;
            exponent += 60;
        }
        for (int i = 0; i < 20 && size < 1.0; i++) {
            size = size * 0x1p60;
            exponent -= 60;
        }
        long whole = (long) size;
        int top = 0;
        for (int jump = 32; jump >= 1; jump >>= 1) {
            if (whole >> (top + jump) != 0) top += jump;
        }
        long part = (long) (top <= 52 ? size * (1L << (52 - top)) : size / (1L << (top - 52)));
        exponent += top;
        if (exponent < -1022) return sign | part >> (-1022 - exponent);
        return sign | (long) (exponent + 1023) << 52 | part & FRACTION;
    }

    /** The nearest double to the root, bit by bit, as no library root may be used; 0.0 of 0.0 and below. */
    private static double root(double d) {
        if (!(d > 0.0)) return 0.0;
        boolean tiny = d < 0x1p-1022;
        long bits = bitsOf(tiny ? d * 0x1p108 : d);
        if (bits >= INFINITE) return d;
        int exponent = (int) (bits >> 52) - 1023;
        long part = bits & FRACTION | FRACTION + 1;
        long digits = rootDigits((exponent & 1) != 0 ? part << 2 : part << 1);
        double answer = realOf((digits >> 1) + ((long) ((exponent >> 1) + 1022) << 52));
        return tiny ? answer * 0x1p-54 : answer;
    }

    /** 54 digits of the root, the last one rounded into the one ahead of it (no root is a tie). */
    private static long rootDigits(long part) {
        long rest = part;
        long digits = 0;
        long twice = 0;
        for (int i = 53; i >= 0; i--) {
            long bit = 1L << i;
            long trial = twice + bit;
            if (trial <= rest) {
                twice = trial + bit;
                rest -= trial;
                digits += bit;
            }
            rest = rest << 1;
        }
        return rest != 0 ? digits + (digits & 1) : digits;
    }

    /** Cells of every KIND are longs: wholes as they are told, truths 1 and 0, reals their double's bits. */
    private static final class Row {
        final int kind;
        final long[] cells;

        Row(int kind, int n) {
            this.kind = kind;
            cells = new long[n];
        }

        static long cellOfWhole(int kind, long v) {
            switch (kind) {
                case SHORT: return (short) v;
                case INT: return (int) v;
                case FLOAT: return bitsOf((float) v);
                case DOUBLE: return bitsOf((double) v);
                case CHAR: return (char) v;
                case BYTE: return (byte) v;
                case TRUTH: return v != 0 ? 1 : 0;
                default: return v;
            }
        }

        static long cellOfReal(int kind, long bits) {
            if (noNumber(bits)) return kind == FLOAT || kind == DOUBLE ? NO_NUMBER : kind == TRUTH ? 1 : 0;
            double d = realOf(bits);
            switch (kind) {
                case SHORT: return (short) (int) d;
                case INT: return (int) d;
                case FLOAT: return bitsOf((float) d);
                case DOUBLE: return bits;
                case CHAR: return (char) (int) d;
                case BYTE: return (byte) (int) d;
                case TRUTH: return d != 0.0 ? 1 : 0;
                default: return (long) d;
            }
        }

        static long wholeOfCell(int kind, long cell) {
            if (kind != FLOAT && kind != DOUBLE) return cell;
            return noNumber(cell) ? 0 : (long) realOf(cell);
        }

        static long cellMore(int kind, long cell, long v) {
            if (kind == TRUTH) return (v & 1) != 0 ? 1 - cell : cell;
            if (kind != FLOAT && kind != DOUBLE) return cellOfWhole(kind, cell + v);
            if (noNumber(cell)) return cell;
            return kind == FLOAT ? bitsOf((float) realOf(cell) + (float) v) : bitsOf(realOf(cell) + (double) v);
        }

        boolean hasCell(int i) {
            return i >= 0 && i < cells.length;
        }

        boolean isOfReals() {
            return kind == FLOAT || kind == DOUBLE;
        }

        long wholeAt(int i) {
            return wholeOfCell(kind, cells[i]);
        }

        void setWhole(int i, long v) {
            cells[i] = cellOfWhole(kind, v);
        }

        long realAt(int i) {
            return isOfReals() ? cells[i] : bitsOf((double) cells[i]);
        }

        boolean isLike(Row other) {
            if (kind != other.kind || cells.length != other.cells.length) return false;
            for (int i = 0; i < cells.length; i++) {
                if (cells[i] != other.cells[i]) return false;
            }
            return true;
        }

        int notZero() {
            int many = 0;
            for (int i = 0; i < cells.length; i++) {
                if (wholeAt(i) != 0) many++;
            }
            return many;
        }

        int lastOf(long v) {
            for (int i = cells.length - 1; i >= 0; i--) {
                if (wholeAt(i) == v) return i;
            }
            return NONE;
        }

        long wholesTogether() {
            long sum = 0;
            for (int i = 0; i < cells.length; i++) sum += wholeAt(i);
            return sum;
        }

        /** Bits of what flow() asks: 0 to 3 of the cells that are numbers, 4 to 6 of all. */
        long flowOf(int what) {
            int numbers = numberCount();
            if (numbers == 0 || what >= 4 && numbers < cells.length) return NO_NUMBER;
            switch (what) {
                case 2:
                case 6: return meanOfNumbers(numbers);
                case 3: return middleOfNumbers(numbers);
                default: return outermost(what == 1 || what == 5);
            }
        }

        private int numberCount() {
            int many = 0;
            for (int i = 0; i < cells.length; i++) {
                if (!noNumber(cells[i])) many++;
            }
            return many;
        }

        private long outermost(boolean highest) {
            long best = NO_NUMBER;
            for (int i = 0; i < cells.length; i++) {
                if (noNumber(cells[i])) continue;
                boolean better = highest ? rankOf(cells[i]) > rankOf(best) : rankOf(cells[i]) < rankOf(best);
                if (noNumber(best) || better) best = cells[i];
            }
            return best;
        }

        private long meanOfNumbers(int numbers) {
            double sum = 0.0;
            for (int i = 0; i < cells.length; i++) {
                if (noNumber(cells[i])) continue;
                // two infinite ones of unlike signs are the one sum that is NO NUMBER
                if ((bitsOf(sum) ^ cells[i]) == Long.MIN_VALUE && (cells[i] & Long.MAX_VALUE) == INFINITE) return NO_NUMBER;
                sum = sum + realOf(cells[i]);
            }
            return numbers == 0 ? NO_NUMBER : bitsOf(sum / numbers);
        }

        private long middleOfNumbers(int numbers) {
            long[] rising = new long[numbers];
            int many = 0;
            for (int i = 0; i < cells.length && many < numbers; i++) {
                if (noNumber(cells[i])) continue;
                int at = many;
                for (; at > 0 && strictRank(rising[at - 1]) > strictRank(cells[i]); at--) rising[at] = rising[at - 1];
                rising[at] = cells[i];
                many++;
            }
            return numbers == 0 ? NO_NUMBER : rising[(numbers - 1) / 2];
        }

        /** As rankOf, but -0.0 is ahead of 0.0. */
        private static long strictRank(long bits) {
            return bits >= 0 ? bits : -1 - (bits & Long.MAX_VALUE);
        }
    }

    private static final class Bed {
        final int kind;
        final Row[] strips;

        Bed(int kind, int strips) {
            this.kind = kind;
            this.strips = new Row[strips];
        }

        void fill(int cells) {
            for (int i = 0; i < strips.length; i++) strips[i] = new Row(kind, cells);
        }

        int spotFailure(int i, int j) {
            if (i < 0 || i >= strips.length) return INDEX;
            if (strips[i] == null) return NULL;
            return strips[i].hasCell(j) ? 0 : INDEX;
        }

        /** The k-th bare STRIP, or NONE; of k = -1 how many there are. */
        int bareStrip(int k) {
            int many = 0;
            for (int i = 0; i < strips.length; i++) {
                if (strips[i] != null) continue;
                if (many == k) return i;
                many++;
            }
            return k == -1 ? many : NONE;
        }
    }

    private static final class Thing {
        static final int WIRE = 1, ROLLER = 3, STONE = 5, READS = 6, STRONG = 7, COSTS = 8, ALL = 9;
        static final int[] SIGNS = {11, 12, 21, 21, 31, 32};

        final int sort;
        final int load;

        Thing(int sort, int load) {
            this.sort = sort;
            this.load = load;
        }

        /** Sorts stand in pairs, the odd one an heir of the even one ahead of it. */
        boolean isFor(int built) {
            switch (built) {
                case READS: return sort <= WIRE;
                case STRONG: return sort > WIRE;
                case COSTS: return sort % 2 == 1;
                case ALL: return true;
                default: return sort == built || sort - sort % 2 == built;
            }
        }

        boolean canTell(int ask) {
            switch (ask) {
                case 2: return isFor(READS);
                case 3: return isFor(STRONG);
                case 4: return isFor(COSTS);
                default: return true;
            }
        }

        int tell(int ask) {
            switch (ask) {
                case 0: return sign();
                case 1: return weight();
                case 2: return sort == WIRE ? 3 * weight() : 10 * sign() + weight();
                case 3: return 5 * weight() + sign() + (sort == ROLLER ? 100 : 0);
                case 4: return weight() * weight() - (sort == STONE ? sign() : 0);
                default: return 1000 * sign();
            }
        }

        int sign() {
            return sort >= 0 && sort < SIGNS.length ? SIGNS[sort] : 0;
        }

        int weight() {
            if (sort == WIRE) return load + 7;
            return sort == STONE ? 2 * load : load;
        }
    }

    /** Places hold numbers of THINGS, or NONE. */
    private static final class Rack {
        final int built;
        final int[] places;

        Rack(int built, int n) {
            this.built = built;
            places = new int[n];
            for (int i = 0; i < places.length; i++) places[i] = NONE;
        }

        boolean isForFloat() {
            return built == 0 || built == Thing.WIRE;
        }

        boolean isForReads() {
            return isForFloat() || built == Thing.READS;
        }
    }

    /** Fields are cells of a KIND each; next and thing are numbers, or NONE. */
    private static final class Card {
        static final int FIELDS = 8;
        static final int[] KINDS = {BYTE, SHORT, CHAR, INT, LONG, FLOAT, DOUBLE, TRUTH};

        final long[] fields = new long[FIELDS];
        int next = NONE;
        int thing = NONE;

        long wholeAt(int f) {
            return Row.wholeOfCell(KINDS[f], fields[f]);
        }
    }

    /**
     * PLANS and what they work on. What comes out of a PLAN is an outcome: FINE, or a way (a FAILURE 1 .. 8, or
     * ANSWERED) with a load (the WORD, or the ANSWER) in its lower half.
     */
    private static final class Acts {
        static final int PLANS = 12, STEPS = 12, PARTS = 5, MOST_BEGUN = 48, DEEPEST = 8, SIGNALS = 60, MOST_NOTCHES = 100;
        static final int PUT = 0, TAKE = 1, FAIL = 2, HOLD = 3, TURN = 4, SIGNAL = 5, DO = 6, TRY = 7, ANSWER = 8, SUM = 9;
        static final int ANSWERED = 9, LACKING = 1, BEYOND = 2, TOO_FAR = 3;
        static final long FINE = 0;

        final int[] steps = new int[PLANS * STEPS * PARTS];
        final int[] counts = new int[PLANS];
        long litres;
        final int[] depths = new int[GATES];
        final int[] notches = new int[GATES];
        final int[] signals = new int[SIGNALS];
        int signalCount;
        int answer;
        int begun;
        int putBy;
        final int[] undoRows = new int[MOST_BEGUN];
        final int[] undoCells = new int[MOST_BEGUN];
        final long[] undoWas = new long[MOST_BEGUN];
        int undoCount;

        static boolean isStep(int op, int a, int b, int c, int d) {
            switch (op) {
                case PUT:
                case SIGNAL:
                case ANSWER:
                case SUM: return true;
                case TAKE: return !outOf(a, 0, 1000000000);
                case FAIL: return !outOf(a, NULL, WORD) && !outOf(b, 0, 99);
                case HOLD:
                case TURN: return !outOf(a, 0, GATES - 1);
                case DO: return !outOf(a, 0, PLANS - 1);
                case TRY: return !outOf(a, 0, PLANS - 1) && !outOf(b, 0, 9) && !outOf(c, NONE, PLANS - 1) && !outOf(d, NONE, PLANS - 1);
                default: return false;
            }
        }

        void keepStep(int plan, int op, int a, int b, int c, int d) {
            int at = stepAt(plan, counts[plan]);
            steps[at] = op;
            steps[at + 1] = a;
            steps[at + 2] = b;
            steps[at + 3] = c;
            steps[at + 4] = d;
            counts[plan]++;
        }

        static int wayOf(long outcome) {
            return (int) (outcome >>> 32);
        }

        static int loadOf(long outcome) {
            return (int) outcome;
        }

        private static long outcomeOf(int way, int load) {
            return (long) way << 32 | load & 0xFFFFFFFFL;
        }

        private static int stepAt(int plan, int i) {
            return (plan * STEPS + i) * PARTS;
        }

        long perform(Row[] rows, int plan) {
            begun = 0;
            putBy = 0;
            undoCount = 0;
            long litresBefore = litres;
            long outcome = doPlan(rows, plan, 1);
            boolean answered = wayOf(outcome) == ANSWERED;
            answer = answered ? loadOf(outcome) : 0;
            if (outcome != FINE && !answered) {
                litres = litresBefore;
                undoCells(rows);
            }
            return outcome;
        }

        private void undoCells(Row[] rows) {
            for (int i = undoCount - 1; i >= 0; i--) rows[undoRows[i]].cells[undoCells[i]] = undoWas[i];
        }

        private long doPlan(Row[] rows, int plan, int depth) {
            if (depth > DEEPEST) return outcomeOf(WORD, TOO_FAR);
            long outcome = FINE;
            int done = 0;
            for (int i = 0; i < counts[plan] && outcome == FINE; i++) {
                if (begun >= MOST_BEGUN) {
                    outcome = outcomeOf(WORD, TOO_FAR);
                } else {
                    begun++;
                    done++;
                    outcome = doStep(rows, stepAt(plan, i), depth);
                }
            }
            letGo(plan, done);
            return outcome;
        }

        /** A HOLD that was begun was taken, too, as it never fails. */
        private void letGo(int plan, int done) {
            for (int i = done - 1; i >= 0; i--) {
                int at = stepAt(plan, i);
                if (steps[at] == HOLD) depths[steps[at + 1]]--;
            }
        }

        private long doStep(Row[] rows, int at, int depth) {
            int a = steps[at + 1];
            int b = steps[at + 2];
            switch (steps[at]) {
                case PUT: return putCell(rows, a, b, steps[at + 3]);
                case TAKE: return takeLitres(a);
                case FAIL: return outcomeOf(a, a == HELD || a == WORD ? b : 0);
                case HOLD:
                    depths[a]++;
                    return FINE;
                case TURN: return turnGate(a, b);
                case SIGNAL:
                    keepSignal(a);
                    return FINE;
                case DO: return doPlan(rows, a, depth + 1);
                case TRY: return tryPlan(rows, at, depth);
                case ANSWER: return outcomeOf(ANSWERED, a);
                default: return sumInto(a, b);
            }
        }

        private long putCell(Row[] rows, int row, int i, int v) {
            if (row < 0 || row >= rows.length || rows[row] == null) return outcomeOf(NULL, 0);
            if (!rows[row].hasCell(i)) return outcomeOf(INDEX, 0);
            undoRows[undoCount] = row;
            undoCells[undoCount] = i;
            undoWas[undoCount] = rows[row].cells[i];
            undoCount++;
            rows[row].cells[i] = Row.cellOfWhole(rows[row].kind, v);
            return FINE;
        }

        private long takeLitres(int n) {
            if (n > litres) return outcomeOf(WORD, LACKING);
            litres -= n;
            return FINE;
        }

        private long turnGate(int gate, int more) {
            if (depths[gate] == 0) return outcomeOf(HELD, 0);
            notches[gate] = (int) Math.max(0L, Math.min((long) MOST_NOTCHES, notches[gate] + (long) more));
            return FINE;
        }

        private void keepSignal(int number) {
            if (signalCount >= SIGNALS) return;
            signals[signalCount] = number;
            signalCount++;
        }

        private long sumInto(int a, int b) {
            if (b == 0) return outcomeOf(ARITHMETIC, 0);
            long sum = litres + (long) a / b;
            if (sum < 0 || sum > MOST_STOCK) return outcomeOf(WORD, BEYOND);
            litres = sum;
            return FINE;
        }

        private long tryPlan(Row[] rows, int at, int depth) {
            int onFailure = steps[at + 3];
            int atLast = steps[at + 4];
            long outcome = doPlan(rows, steps[at + 1], depth + 1);
            if (isCaught(wayOf(outcome), steps[at + 2])) {
                outcome = onFailure == NONE ? FINE : doPlan(rows, onFailure, depth + 1);
            }
            if (atLast == NONE) return outcome;
            long last = doPlan(rows, atLast, depth + 1);
            if (last == FINE) return outcome;
            if (outcome != FINE) putBy++;
            return last;
        }

        private static boolean isCaught(int way, int by) {
            if (way == 0 || way == ANSWERED) return false;
            return by == 0 || by == way || by == 9 && way != WORD;
        }
    }

    private static final class Lake {
        static final int LINES = 40;

        double volume = 100000.0;
        double snow;
        double ground;
        double inflow;
        double outflow;
        double spill;
        double lack;
        double mostTurn = 0.125;
        double levelTold;
        int steps;
        int unheard;
        final double[] openings = new double[GATES];
        final long[] hands = new long[GATES];
        final boolean[] sticks = new boolean[GATES];
        final int[] moves = new int[GATES];
        final int[] order = new int[GATES];
        final Voices voices = new Voices();

        Lake() {
            for (int gate = 0; gate < GATES; gate++) hands[gate] = NO_NUMBER;
        }

        static int unitsAt(int k) {
            return 1000 * k * k + 2000 * k;
        }

        static double levelOf(double volume) {
            int k = LINES - 1;
            while (k > 0 && unitsAt(k) > volume) k--;
            double under = unitsAt(k);
            double over = unitsAt(k + 1);
            return k + (volume - under) / (over - under);
        }

        void takeStep(double rain, double warmth, Charter charter) {
            steps++;
            fall(rain, warmth);
            inflow = ground * 0.25;
            ground = ground - inflow;
            double level = levelOf(volume);
            listen(level);
            orderGates();
            steer(charter.wishAt(steps % (Charter.LAST_DAY + 1), levelTold));
            letOut(level);
        }

        private void fall(double rain, double warmth) {
            if (!(warmth > 0.0)) {
                snow = snow + rain;
                return;
            }
            double melt = snow < 2.0 * warmth ? snow : 2.0 * warmth;
            snow = snow - melt;
            ground = ground + rain + melt;
        }

        private void listen(double level) {
            long voice = voices.hear(steps, levelTold);
            boolean silent = noNumber(voice);
            levelTold = silent ? level : realOf(voice);
            unheard = silent ? unheard + 1 : 0;
        }

        private void orderGates() {
            for (int gate = 0; gate < GATES; gate++) {
                int at = gate;
                for (; at > 0 && moves[order[at - 1]] > moves[gate]; at--) order[at] = order[at - 1];
                order[at] = gate;
            }
        }

        private void steer(double wish) {
            double full = 400.0 * root(levelTold);
            double left = wish;
            for (int i = 0; i < GATES; i++) {
                int gate = order[i];
                double before = openings[gate];
                if (!sticks[gate]) openings[gate] = noNumber(hands[gate]) ? steered(before, left, full) : realOf(hands[gate]);
                left = left - openings[gate] * full;
                if (bitsOf(openings[gate]) != bitsOf(before)) moves[gate]++;
            }
        }

        private double steered(double opening, double left, double full) {
            double turn = targetFor(left, full) - opening;
            if (turn > mostTurn) turn = mostTurn;
            if (turn < -mostTurn) turn = -mostTurn;
            return opening + turn;
        }

        private double targetFor(double left, double full) {
            if (unheard >= 3) return 0.5;
            if (full == 0.0 || !(left > 0.0)) return 0.0;
            double target = left / full;
            return target > 1.0 ? 1.0 : target;
        }

        private void letOut(double level) {
            double rootOfLevel = root(level);
            outflow = 0.0;
            for (int gate = 0; gate < GATES; gate++) outflow = outflow + openings[gate] * 400.0 * rootOfLevel;
            double above = level - 30.0;
            spill = above > 0.0 ? above * above * 150.0 : 0.0;
            lack = 0.0;
            volume = volume + inflow - outflow - spill;
            double most = unitsAt(LINES);
            if (volume < 0.0) {
                lack = -volume;
                volume = 0.0;
            } else if (volume > most) {
                spill = spill + (volume - most);
                volume = most;
            }
        }

        /** Of what lake() asks, 0 .. 13. */
        long bitsAbout(int what) {
            switch (what) {
                case 0: return bitsOf(volume);
                case 1: return bitsOf(levelOf(volume));
                case 2: return steps == 0 ? NO_NUMBER : bitsOf(levelTold);
                case 3: return bitsOf(ground);
                case 4: return bitsOf(snow);
                case 5: return bitsOf(inflow);
                case 6: return bitsOf(outflow);
                case 7: return bitsOf(spill);
                case 8: return bitsOf(lack);
                case 9: return bitsOf(mostTurn);
                default: return bitsOf(openings[what - 10]);
            }
        }
    }

    /** READINGS as bits, NO NUMBER where there is none; those of the latest four STEPS stand by STEP modulo 4. */
    private static final class Voices {
        static final int HEARD = 0, SILENT = 1, HANGS = 2, JUMPS = 3, SPAN = 4;

        final long[] next = new long[GAUGES];
        long watchman = NO_NUMBER;
        final long[] past = new long[SPAN * GAUGES];
        final int[] farRuns = new int[GAUGES];
        final int[] fates = new int[GAUGES];
        final long[] rising = new long[GAUGES];

        Voices() {
            for (int gauge = 0; gauge < GAUGES; gauge++) next[gauge] = NO_NUMBER;
            for (int i = 0; i < past.length; i++) past[i] = NO_NUMBER;
        }

        /** Bits of THE VOICE, or of the watchman's WORD; NO NUMBER, if there is none. */
        long hear(int step, double toldBefore) {
            // not by %: an index must not fall below 0 on a wall that was used past all bounds
            int now = (step & SPAN - 1) * GAUGES;
            takeIn(now);
            int many = 0;
            for (int gauge = 0; gauge < GAUGES; gauge++) {
                long reading = past[now + gauge];
                boolean far = step > 1 && isFar(reading, toldBefore);
                fates[gauge] = fateOf(gauge, reading, far);
                farRuns[gauge] = far ? farRuns[gauge] + 1 : 0;
                if (fates[gauge] == HEARD) {
                    insert(reading, many);
                    many++;
                }
            }
            long said = watchman;
            watchman = NO_NUMBER;
            if (!noNumber(said)) return said;
            return many == 0 ? NO_NUMBER : rising[(many - 1) / 2];
        }

        private void takeIn(int now) {
            for (int gauge = 0; gauge < GAUGES; gauge++) {
                past[now + gauge] = next[gauge];
                next[gauge] = NO_NUMBER;
            }
        }

        private static boolean isFar(long reading, double toldBefore) {
            if (noNumber(reading)) return false;
            double apart = realOf(reading) - toldBefore;
            return (apart < 0.0 ? -apart : apart) > 0.5;
        }

        private int fateOf(int gauge, long reading, boolean far) {
            if (noNumber(reading)) return SILENT;
            if (isStill(gauge, reading) && othersStir(gauge)) return HANGS;
            return far && farRuns[gauge] < SPAN - 1 ? JUMPS : HEARD;
        }

        private boolean isStill(int gauge, long reading) {
            for (int i = 0; i < SPAN; i++) {
                if (past[i * GAUGES + gauge] != reading) return false;
            }
            return true;
        }

        private boolean othersStir(int gauge) {
            for (int other = 0; other < GAUGES; other++) {
                if (other != gauge && stirs(other)) return true;
            }
            return false;
        }

        private boolean stirs(int gauge) {
            long first = NO_NUMBER;
            for (int i = 0; i < SPAN; i++) {
                long reading = past[i * GAUGES + gauge];
                if (reading == NO_NUMBER) continue;
                if (first != NO_NUMBER && reading != first) return true;
                first = reading;
            }
            return false;
        }

        private void insert(long reading, int many) {
            int at = many;
            for (; at > 0 && rankOf(rising[at - 1]) > rankOf(reading); at--) rising[at] = rising[at - 1];
            rising[at] = reading;
        }
    }

    /** RULES and RIGHTS, each by the number in whose order they came. */
    private static final class Charter {
        static final int MOST = 12, LAST_DAY = 365, RANKS = 100;

        final int[] ruleRanks = new int[MOST];
        final int[] froms = new int[MOST];
        final int[] tos = new int[MOST];
        final double[] lows = new double[MOST];
        final double[] highs = new double[MOST];
        final double[] outs = new double[MOST];
        int ruleCount;
        final int[] rightRanks = new int[MOST];
        final int[] shares = new int[MOST];
        final long[] mosts = new long[MOST];
        final long[] have = new long[MOST];
        int rightCount;

        int keepRule(int rank, int from, int to, double low, double high, double out) {
            ruleRanks[ruleCount] = rank;
            froms[ruleCount] = from;
            tos[ruleCount] = to;
            lows[ruleCount] = low;
            highs[ruleCount] = high;
            outs[ruleCount] = out;
            ruleCount++;
            return ruleCount - 1;
        }

        int firstRule(int day, double level) {
            int first = NONE;
            for (int i = 0; i < ruleCount; i++) {
                boolean holding = froms[i] <= day && day <= tos[i] && lows[i] <= level && level < highs[i];
                if (holding && (first == NONE || ruleRanks[i] < ruleRanks[first])) first = i;
            }
            return first;
        }

        double wishAt(int day, double level) {
            int first = firstRule(day, level);
            return first == NONE ? 0.0 : outs[first];
        }

        int keepRight(int rank, int share, long most) {
            rightRanks[rightCount] = rank;
            shares[rightCount] = share;
            mosts[rightCount] = most;
            rightCount++;
            return rightCount - 1;
        }

        /** How many of n litres no RIGHT got. */
        long leftOfParting(long n) {
            long left = n;
            int rank = nextRank(NONE);
            for (int i = 0; i < rightCount && rank < RANKS; i++) {
                left = partRank(rank, left);
                rank = nextRank(rank);
            }
            return left;
        }

        private int nextRank(int behind) {
            int next = RANKS;
            for (int i = 0; i < rightCount; i++) {
                if (rightRanks[i] > behind && rightRanks[i] < next) next = rightRanks[i];
            }
            return next;
        }

        private long partRank(int rank, long before) {
            long wanted = 0;
            long shareSum = 0;
            for (int i = 0; i < rightCount; i++) {
                if (rightRanks[i] != rank) continue;
                wanted += mosts[i] - have[i];
                shareSum += shares[i];
            }
            long left = before;
            if (wanted > before && shareSum > 0) {
                for (int i = 0; i < rightCount; i++) {
                    if (rightRanks[i] == rank) left -= give(i, before * shares[i] / shareSum);
                }
            }
            for (int i = 0; i < rightCount; i++) {
                if (rightRanks[i] == rank) left -= give(i, left);
            }
            return left;
        }

        private long give(int right, long litres) {
            long got = Math.min(litres, mosts[right] - have[right]);
            have[right] += got;
            return got;
        }
    }

    private static final class Floods {
        static final int RUNS = 6, HOURS = 12, RELEASES = 8;

        int span = HOURS;
        final double[] inflows = new double[RUNS * HOURS];
        final boolean[] inflowTold = new boolean[RUNS * HOURS];
        final double[] releases = new double[RELEASES];
        final boolean[] releaseTold = new boolean[RELEASES];

        void tellInflow(int run, int hour, long bits) {
            inflowTold[run * HOURS + hour] = !noNumber(bits);
            inflows[run * HOURS + hour] = realOf(bits);
        }

        void tellRelease(int k, long bits) {
            releaseTold[k] = !noNumber(bits);
            releases[k] = realOf(bits);
        }

        boolean hasRelease(int k) {
            return k >= 0 && k < RELEASES && releaseTold[k];
        }

        boolean lacks(int run) {
            for (int hour = 0; hour < span; hour++) {
                if (!inflowTold[run * HOURS + hour]) return true;
            }
            return false;
        }

        private double nextVolume(double volume, int run, int k, int hour) {
            double next = volume + inflows[run * HOURS + hour] - releases[k];
            return next < 0.0 ? 0.0 : next;
        }

        double volumeBehind(double volume, int run, int k, int lastHour) {
            double v = volume;
            for (int hour = 0; hour <= lastHour; hour++) v = nextVolume(v, run, k, hour);
            return v;
        }

        private double lossOf(double volume, int run, int k) {
            double brim = Lake.unitsAt(30);
            double v = volume;
            double highest = 0.0;
            for (int hour = 0; hour < span; hour++) {
                v = nextVolume(v, run, k, hour);
                double over = v - brim;
                if (over > highest) highest = over;
            }
            return highest * highest + releases[k] * 10.0;
        }

        double regretOf(double volume, int k) {
            double greatest = 0.0;
            for (int run = 0; run < RUNS; run++) {
                if (lacks(run)) continue;
                double loss = lossOf(volume, run, k);
                if (loss > greatest) greatest = loss;
            }
            return greatest;
        }

        int leastRegret(double volume) {
            int best = NONE;
            double least = 0.0;
            for (int k = 0; k < RELEASES; k++) {
                if (!releaseTold[k]) continue;
                double regretOfK = regretOf(volume, k);
                if (best == NONE || regretOfK < least || regretOfK == least && releases[k] < releases[best]) {
                    best = k;
                    least = regretOfK;
                }
            }
            return best;
        }

        int peakHour(int run) {
            if (lacks(run)) return NONE;
            int best = 0;
            for (int hour = 1; hour < span; hour++) {
                if (inflows[run * HOURS + hour] > inflows[run * HOURS + best]) best = hour;
            }
            return best;
        }

        int runsThatLackNot() {
            int many = 0;
            for (int run = 0; run < RUNS; run++) {
                if (!lacks(run)) many++;
            }
            return many;
        }

        int runsAbove(double mark) {
            int many = 0;
            for (int run = 0; run < RUNS; run++) {
                int hour = peakHour(run);
                if (hour != NONE && inflows[run * HOURS + hour] > mark) many++;
            }
            return many;
        }
    }

    private static final class Book {
        static final int PAGES = 32, SIZE_OF_PAGE = 32, HEAD = 3, MOST_BYTES = 24, SUMMED = 28, MOST_BOOKINGS = 60000;
        static final int EMPTY_PAGE = 0, ROW_PAGE = 1, BROKEN_PAGE = 2, UNLIKE_PAGE = 3, DOUBLED_PAGE = 4;

        final byte[] bytes = new byte[PAGES * SIZE_OF_PAGE];
        /** The NUMBER of each page that is WHOLE, else 0; looked at again whenever a page changes. */
        final int[] numbers = new int[PAGES];
        int bookings;

        int byteAt(int page, int i) {
            return bytes[page * SIZE_OF_PAGE + i] & 0xFF;
        }

        private void setByte(int page, int i, int b) {
            bytes[page * SIZE_OF_PAGE + i] = (byte) b;
        }

        void write(Row row) {
            int page = bookings % PAGES;
            bookings++;
            clearFrom(page, 0);
            setByte(page, 0, bookings >> 8);
            setByte(page, 1, bookings);
            setByte(page, 2, row.cells.length);
            for (int i = 0; i < row.cells.length; i++) setByte(page, HEAD + i, (int) row.wholeAt(i));
            int sum = sumOf(page);
            for (int i = 0; i < 4; i++) setByte(page, SUMMED + i, sum >> (24 - 8 * i));
            look(page);
        }

        void alter(int page, int i, int mask) {
            setByte(page, i, byteAt(page, i) ^ mask);
            look(page);
        }

        void clearFrom(int page, int i) {
            for (int j = i; j < SIZE_OF_PAGE; j++) setByte(page, j, 0);
            look(page);
        }

        void copyPage(int from, int to) {
            System.arraycopy(bytes, from * SIZE_OF_PAGE, bytes, to * SIZE_OF_PAGE, SIZE_OF_PAGE);
            numbers[to] = numbers[from];
        }

        private int sumOf(int page) {
            int s = 0;
            for (int i = 0; i < SUMMED; i++) {
                s = s ^ byteAt(page, i);
                s = s << 7 | s >>> 25;
                s = s * 0xC2B2AE3D;
            }
            return s;
        }

        private int writtenSum(int page) {
            int s = 0;
            for (int i = SUMMED; i < SIZE_OF_PAGE; i++) s = s << 8 | byteAt(page, i);
            return s;
        }

        private void look(int page) {
            boolean whole = byteAt(page, 2) <= MOST_BYTES && sumOf(page) == writtenSum(page);
            numbers[page] = whole ? byteAt(page, 0) << 8 | byteAt(page, 1) : 0;
        }

        private int fateOf(int page) {
            if (numbers[page] == 0) return isEmpty(page) ? EMPTY_PAGE : BROKEN_PAGE;
            int first = firstOf(numbers[page]);
            if (first == page) return ROW_PAGE;
            return isSame(first, page) ? DOUBLED_PAGE : UNLIKE_PAGE;
        }

        private boolean isEmpty(int page) {
            for (int i = 0; i < SIZE_OF_PAGE; i++) {
                if (byteAt(page, i) != 0) return false;
            }
            return true;
        }

        private boolean isSame(int one, int other) {
            for (int i = 0; i < SIZE_OF_PAGE; i++) {
                if (byteAt(one, i) != byteAt(other, i)) return false;
            }
            return true;
        }

        private int firstOf(int number) {
            int page = 0;
            while (page < PAGES - 1 && numbers[page] != number) page++;
            return page;
        }

        int pagesOf(int fate) {
            int many = 0;
            for (int page = 0; page < PAGES; page++) {
                if (fateOf(page) == fate) many++;
            }
            return many;
        }

        int pageOf(int fate, int k) {
            int many = 0;
            for (int page = 0; page < PAGES; page++) {
                if (fateOf(page) != fate) continue;
                if (many == k) return page;
                many++;
            }
            return NONE;
        }

        /** The page of ROW i OF THE BOOK, or NONE. */
        int pageOfRow(int i) {
            if (i < 0) return NONE;
            int number = 0;
            for (int row = 0; row <= i && row <= PAGES; row++) {
                number = leastAbove(number);
                if (number == 0) return NONE;
            }
            return firstOf(number);
        }

        private int leastAbove(int number) {
            int least = 0;
            for (int page = 0; page < PAGES; page++) {
                if (numbers[page] > number && (least == 0 || numbers[page] < least)) least = numbers[page];
            }
            return least;
        }
    }
}
