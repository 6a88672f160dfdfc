import java.util.Arrays;

/** The bench that ../shared/DOC.md promises. Words in capitals in the comments are that document's terms. */
public final class PegCourt {
    public static final int NONE = -1, FULL = -2, STARTED = -3, LIE = -4, BIG = -5, KIND = -6, NO_TREE = -7;
    public static final int NOTHING = -11, CAST = -12, PLACE = -13, SIZE = -14, THROWN = -15, COLOUR = -16;

    private static final int BLANK = -1;
    private static final int MOST_PLACES = 5, MOST_COLOURS = 8, MOST_CODES = 4096;
    private static final int FIRST_PLACES = 3, FIRST_COLOURS = 4;
    /** ANSWERS are 0 .. 50, so a row by ANSWERS has this length, and a long holds a set of them. */
    private static final int ANSWERS = 10 * MOST_PLACES + 1;
    private static final int LAW_ALL = 0, LAW_NO_TWICE = 1, LAW_SUM = 2, LAW_LIST = 3;
    private static final int MOST_LISTED = 300, MOST_LIES = 2, MOST_TURNS = 10;
    private static final int WHAT_FALSE_FOR = 6;
    private static final int SORT_PLAIN = 0, SORT_FITTING = 1, SORT_SURE = 2, SORT_BLANK = 3, SORT_LAST = 4;
    private static final int MOST_COMPARED = 200000;
    private static final int MOST_TURNED_PLACES = 4, MOST_TURNED_COLOURS = 5;
    private static final int MOST_IN_TREE = 10, MOST_CODES_FOR_TREES = 1296, MOST_DEPTH_ASKED = 20;
    private static final int MOST_TREE_NODES = 2 * MOST_IN_TREE;
    private static final int MOST_PLANNED = 40, NOT_WHOLE = -20;
    private static final int SHELVES = 6, MOST_CELLS = 60;
    private static final int HOLDS_NOTHING = 0, HOLDS_BYTES = 1, HOLDS_CHARS = 2, HOLDS_SHORTS = 3, HOLDS_GUESS = 4;
    private static final int BLANK_CHAR = 65535;

    private final CodeBook book;
    private final Play play;
    private final Guess theHand;
    private final Parts parts;
    private final Survey survey;
    private final Turnings turnings;
    private final Forest forestByAny;
    private final Forest forestByOwn;
    private final Tree theTree;
    private final Plan thePlan;
    private final Shelf[] shelves;
    private int refusals;

    public PegCourt() {
        book = new CodeBook();
        play = new Play(book);
        theHand = new Guess();
        parts = new Parts();
        survey = new Survey();
        turnings = new Turnings(book);
        forestByAny = new Forest(book, true);
        forestByOwn = new Forest(book, false);
        theTree = new Tree();
        thePlan = new Plan();
        shelves = new Shelf[SHELVES];
        for (int d = 0; d < SHELVES; d++) {
            shelves[d] = new Shelf();
        }
        startAnew(FIRST_PLACES, FIRST_COLOURS);
    }

    // ---- I. codes and the law

    public int begin(int places, int colours) {
        if (places < 1 || places > MOST_PLACES || colours < 1 || colours > MOST_COLOURS) {
            return NONE;
        }
        if (CodeBook.codesOf(places, colours) > MOST_CODES) {
            return BIG;
        }
        startAnew(places, colours);
        return book.size;
    }

    /** Promise 2 lets the SHELVES alone stay, so whatever else an object has must be set back here. */
    private void startAnew(int places, int colours) {
        book.write(places, colours);
        play.startAnew();
        theHand.fillWith(BLANK);
        theHand.measure(places, colours);
        theTree.nodes = 0;
        thePlan.empty();
        refusals = 0;
    }

    public int law(int law, int told) {
        if (law < LAW_ALL || law > LAW_LIST) {
            return NONE;
        }
        if (play.turns > 0) {
            return STARTED;
        }
        play.setLaw(law, told);
        return play.allowedCount;
    }

    public int enlist(int code) {
        if (!book.has(code)) {
            return NONE;
        }
        if (play.turns > 0) {
            return STARTED;
        }
        if (!play.listed[code]) {
            if (play.listSize >= MOST_LISTED) {
                return FULL;
            }
            play.addToList(code);
        }
        return play.listSize;
    }

    public int lies(int lies) {
        if (lies < 0 || lies > MOST_LIES) {
            return NONE;
        }
        if (play.turns > 0) {
            return STARTED;
        }
        int before = play.lies;
        play.setLies(lies);
        return before;
    }

    // ---- II. the play

    public int peg(int i, int colour) {
        if (!book.hasPlace(i)) {
            return refused(PLACE);
        }
        if (!book.isPeg(colour)) {
            return COLOUR;
        }
        int before = theHand.pegs[i];
        theHand.pegs[i] = colour;
        theHand.measure(book.places, book.colours);
        return before;
    }

    public int show(int code) {
        if (!book.has(code)) {
            return NONE;
        }
        for (int i = 0; i < book.places; i++) {
            theHand.pegs[i] = book.colourAt(code, i);
        }
        theHand.measure(book.places, book.colours);
        return sortOfHand();
    }

    public int hand(int i) {
        return book.hasPlace(i) ? theHand.pegs[i] : refused(PLACE);
    }

    public int sort() {
        return sortOfHand();
    }

    private int sortOfHand() {
        int code = book.numberOf(theHand);
        if (code == NONE) {
            return SORT_BLANK;
        }
        if (!play.isLeft(code)) {
            return SORT_PLAIN;
        }
        if (play.leftCount == 1) {
            return SORT_LAST;
        }
        parts.divide(play, theHand.spots, theHand.shares);
        return parts.number == play.leftCount ? SORT_SURE : SORT_FITTING;
    }

    public int answer(int guess, int code) {
        return book.has(guess) && book.has(code) ? book.answerOfCodes(guess, code) : NONE;
    }

    public int reply(int code) {
        return book.has(code) ? book.answerTo(theHand.spots, theHand.shares, code) : NONE;
    }

    public int tell(int answer) {
        if (!book.canBeTold(answer)) {
            return NONE;
        }
        if (play.turns >= MOST_TURNS) {
            return FULL;
        }
        return play.accepts(theHand, answer) ? play.leftCount : LIE;
    }

    public int undo() {
        if (play.turns == 0) {
            return NONE;
        }
        play.takeBack();
        return play.turns;
    }

    public int quarrel(int i) {
        if (play.quarrel == NONE) {
            return NONE;
        }
        return i == -1 ? Integer.bitCount(play.quarrel) : memberOf(play.quarrel, i);
    }

    /** The i-th number, rising, of a set of numbers below MOST_TURNS that is written as bits. */
    private static int memberOf(int set, int i) {
        int ahead = 0;
        for (int t = 0; t < MOST_TURNS; t++) {
            if ((set >>> t & 1) != 0) {
                if (ahead == i) {
                    return t;
                }
                ahead++;
            }
        }
        return NONE;
    }

    public int turn(int t, int what) {
        if (t < 0 || t >= play.turns) {
            return NONE;
        }
        if (what == 0) {
            return play.answers[t];
        }
        if (what == WHAT_FALSE_FOR) {
            return play.leftWithFalse(t);
        }
        return book.hasPlace(what - 1) ? play.pegs[t * MOST_PLACES + what - 1] : NONE;
    }

    public int left(int i) {
        return i >= 0 && i < play.leftCount ? play.left[i] : NONE;
    }

    public int falses(int code) {
        return book.has(code) ? Integer.bitCount(play.falseTurns[code]) : NONE;
    }

    public int part(int i, int what) {
        if (what != 0 && what != 1) {
            return NONE;
        }
        parts.divide(play, theHand.spots, theHand.shares);
        int answer = parts.answerOfPart(i);
        if (answer == NONE) {
            return NONE;
        }
        return what == 0 ? answer : parts.sizes[answer];
    }

    public int among(int what) {
        if (what < 0 || what > 3) {
            return NONE;
        }
        if (play.leftCount == 0) {
            return what < 2 ? 0 : NONE;
        }
        if (book.size * play.leftCount > MOST_COMPARED) {
            return BIG;
        }
        survey.look(play, parts);
        switch (what) {
            case 0: return survey.leastGreatest;
            case 1: return survey.mostParts;
            case 2: return survey.codeOfLeast;
            default: return survey.codeOfMost;
        }
    }

    public int like(int a, int b) {
        if (!book.has(a) || !book.has(b)) {
            return NONE;
        }
        if (book.places > MOST_TURNED_PLACES || book.colours > MOST_TURNED_COLOURS) {
            return BIG;
        }
        return turnings.leads(play, a, b) ? 1 : 0;
    }

    // ---- III. trees and plans

    public int least(int pool) {
        if (!isPool(pool)) {
            return NONE;
        }
        int why = whyNoTrees();
        return why != 0 ? why : forestOf(pool).leastDepth();
    }

    public int sum(int pool, int depth) {
        if (!isPool(pool) || !isDepth(depth)) {
            return NONE;
        }
        int why = whyNoTrees();
        if (why != 0) {
            return why;
        }
        int least = forestOf(pool).leastSumWithin(depth);
        return least == 0 ? NO_TREE : least;
    }

    public int best(int how, int pool, int depth) {
        if (how != 0 && how != 1 || !isPool(pool) || !isDepth(depth)) {
            return NONE;
        }
        int why = whyNoTrees();
        if (why != 0) {
            return why;
        }
        Forest forest = forestOf(pool);
        if (how == 0) {
            return forest.firstOfLeastDepth();
        }
        return forest.leastSumWithin(depth) == 0 ? NO_TREE : forest.firstOfLeastSum(depth);
    }

    public int tree(int pool, int depth) {
        if (!isPool(pool) || !isDepth(depth)) {
            return NONE;
        }
        int why = whyNoTrees();
        if (why != 0) {
            return why;
        }
        Forest forest = forestOf(pool);
        if (forest.leastSumWithin(depth) == 0) {
            return NO_TREE;
        }
        forest.plant(theTree, depth);
        return theTree.nodes;
    }

    private static boolean isPool(int pool) {
        return pool == 0 || pool == 1;
    }

    private static boolean isDepth(int depth) {
        return depth >= 0 && depth <= MOST_DEPTH_ASKED;
    }

    private int whyNoTrees() {
        if (play.lies != 0) {
            return KIND;
        }
        if (play.leftCount == 0 || play.leftCount > MOST_IN_TREE || book.size > MOST_CODES_FOR_TREES) {
            return BIG;
        }
        return 0;
    }

    private Forest forestOf(int pool) {
        Forest forest = pool == 0 ? forestByAny : forestByOwn;
        forest.standFor(play);
        return forest;
    }

    public int node(int k, int what) {
        if (k < 0 || k >= theTree.nodes) {
            return NONE;
        }
        switch (what) {
            case 0: return theTree.guesses[k];
            case 1: return theTree.origins[k];
            case 2: return theTree.answers[k];
            case 3: return theTree.sizes[k];
            case 4: return theTree.levels[k];
            default: return NONE;
        }
    }

    public int plan(int parent, int answer, int guess) {
        if (thePlan.nodes == 0 ? parent != -1 : !thePlan.has(parent) || !book.canBeTold(answer)) {
            return NONE;
        }
        if (!book.has(guess)) {
            return NONE;
        }
        if (thePlan.nodes >= MOST_PLANNED) {
            return FULL;
        }
        thePlan.add(parent, answer, guess);
        return thePlan.nodes - 1;
    }

    public int drop() {
        int before = thePlan.nodes;
        thePlan.empty();
        return before;
    }

    public int judge() {
        if (thePlan.nodes == 0 || play.leftCount == 0) {
            return NONE;
        }
        if (play.lies != 0) {
            return KIND;
        }
        thePlan.follow(play);
        int faulty = thePlan.firstNotWhole();
        return faulty == NONE ? thePlan.deepest : NOT_WHOLE - faulty;
    }

    public int total() {
        return judge() > 0 ? thePlan.guessesMade : NONE;
    }

    // ---- IV. shelves

    public int rack(int d, int sort, int n) {
        if (!isShelf(d) || sort < HOLDS_BYTES || sort > HOLDS_SHORTS || n > MOST_CELLS) {
            return NONE;
        }
        if (n < 0) {
            return refused(SIZE);
        }
        shelves[d].holdRow(sort, n);
        return n;
    }

    public int keep(int d) {
        if (!isShelf(d)) {
            return NONE;
        }
        int sort = sortOfHand();
        shelves[d].holdGuess(theHand, book.places, sort);
        return sort;
    }

    public int clear(int d) {
        if (!isShelf(d)) {
            return NONE;
        }
        int before = shelves[d].holds;
        shelves[d].holds = HOLDS_NOTHING;
        return before;
    }

    public int put(int d, int i, int v) {
        if (!isShelf(d)) {
            return NONE;
        }
        Shelf shelf = shelves[d];
        int why = shelf.whyNoRow();
        if (why != 0) {
            return refused(why);
        }
        if (!shelf.hasCells(i, 1)) {
            return refused(PLACE);
        }
        int before = shelf.cells[i];
        shelf.cells[i] = shelf.narrowed(v);
        return before;
    }

    public int at(int d, int i) throws IllegalArgumentException, IllegalStateException {
        if (!isShelf(d)) {
            throw new IllegalArgumentException("no such shelf");
        }
        Shelf shelf = shelves[d];
        if (shelf.whyNoRow() != 0) {
            throw new IllegalStateException("no row is on the shelf");
        }
        if (!shelf.hasCells(i, 1)) {
            throw new IllegalStateException("the row has no such place");
        }
        return shelf.cells[i];
    }

    public int copy(int d, int i, int e, int j, int n) {
        if (!isShelf(d) || !isShelf(e)) {
            return NONE;
        }
        Shelf from = shelves[d];
        Shelf to = shelves[e];
        if (from.holds == HOLDS_NOTHING || to.holds == HOLDS_NOTHING) {
            return refused(NOTHING);
        }
        if (from.whyNoRow() != 0 || from.holds != to.holds) {
            return refused(CAST);
        }
        if (!from.hasCells(i, n) || !to.hasCells(j, n)) {
            return refused(PLACE);
        }
        System.arraycopy(from.cells, i, to.cells, j, n);
        return n;
    }

    public int take(int d, int i) {
        if (!isShelf(d)) {
            return NONE;
        }
        Shelf shelf = shelves[d];
        int why = shelf.whyNoRow();
        if (why != 0) {
            return refused(why);
        }
        if (!shelf.hasCells(i, book.places)) {
            return refused(PLACE);
        }
        for (int k = 0; k < book.places; k++) {
            if (!book.isPeg(shelf.pegAt(i + k))) {
                return COLOUR;
            }
        }
        for (int k = 0; k < book.places; k++) {
            theHand.pegs[k] = shelf.pegAt(i + k);
        }
        theHand.measure(book.places, book.colours);
        return sortOfHand();
    }

    public int kept(int d, int what) {
        if (!isShelf(d) || what < 0 || what > 3 + MOST_PLACES) {
            return NONE;
        }
        Shelf shelf = shelves[d];
        int why = shelf.whyNoGuess();
        if (why != 0) {
            return refused(why);
        }
        switch (what) {
            case 0: return shelf.sort;
            case 1: return shelf.weight();
            case 2: return shelf.rank();
            case 3: return shelf.length;
            default: return shelf.hasCells(what - 4, 1) ? shelf.cells[what - 4] : refused(PLACE);
        }
    }

    public int toss(int d) {
        if (!isShelf(d)) {
            return NONE;
        }
        Shelf shelf = shelves[d];
        int why = shelf.whyNoGuess();
        if (why != 0) {
            return refused(why);
        }
        try {
            shelf.failIfAnyPeg();
        } catch (IllegalStateException failure) {
            return 1 + shelf.sort;
        }
        return refused(THROWN);
    }

    private static boolean isShelf(int d) {
        return d >= 0 && d < SHELVES;
    }

    /** All refusals of the host's go through here, so that count(12) misses none. */
    private int refused(int why) {
        refusals++;
        return why;
    }

    public int count(int what) {
        switch (what) {
            case 0: return book.places;
            case 1: return book.colours;
            case 2: return book.size;
            case 3: return play.allowedCount;
            case 4: return play.leftCount;
            case 5: return play.turns;
            case 6: return partsOfHand();
            case 7: return theTree.nodes;
            case 8: return thePlan.nodes;
            case 9: return play.lies;
            case 10: return play.law;
            case 11: return play.listSize;
            case 12: return refusals;
            default: return NONE;
        }
    }

    private int partsOfHand() {
        parts.divide(play, theHand.spots, theHand.shares);
        return parts.number;
    }

    /**
     * A row of PEGS, with two sets of bits that make an ANSWER quick: spots has a bit for each place with its
     * colour; shares has, in a lane of bits for each colour, as many low bits as PEGS have the colour. What two
     * rows share of spots are BLACKS; what they share of shares is ALIKE. Both fit 32 bits for at most 4096 CODES.
     */
    private static final class Guess {
        private final int[] pegs = new int[MOST_PLACES];
        private int spots;
        private int shares;

        private void fillWith(int peg) {
            Arrays.fill(pegs, peg);
        }

        private void measure(int places, int colours) {
            int lane = (1 << places) - 1;
            int newSpots = 0;
            int newShares = 0;
            for (int i = 0; i < places; i++) {
                int colour = pegs[i];
                if (colour != BLANK) {
                    int low = colour * places;
                    newSpots |= 1 << (i * colours + colour);
                    newShares |= (newShares & lane << low) << 1 | 1 << low;
                }
            }
            spots = newSpots;
            shares = newShares;
        }

        /** The colours, three bits each, that of place 0 lowest. */
        private int packed(int places) {
            int pack = 0;
            for (int i = 0; i < places; i++) {
                pack |= pegs[i] << 3 * i;
            }
            return pack;
        }

        /** From the PEGS of a CODE to those of the next one; from the last one to the first. */
        private void stepOn(int places, int colours) {
            for (int i = places - 1; i >= 0; i--) {
                pegs[i]++;
                if (pegs[i] < colours) {
                    return;
                }
                pegs[i] = 0;
            }
        }
    }

    /** All CODES of the PLACES and COLOURS. Its rows have room for the most CODES, so that begin() makes none. */
    private static final class CodeBook {
        private int places;
        private int colours;
        private int size;
        private final int[] spots = new int[MOST_CODES];
        private final int[] shares = new int[MOST_CODES];
        private final int[] packs = new int[MOST_CODES];
        private final Guess pen = new Guess();

        private static int codesOf(int places, int colours) {
            int codes = 1;
            for (int i = 0; i < places; i++) {
                codes *= colours;
            }
            return codes;
        }

        private void write(int newPlaces, int newColours) {
            places = newPlaces;
            colours = newColours;
            size = codesOf(newPlaces, newColours);
            pen.fillWith(0);
            for (int code = 0; code < size; code++) {
                pen.measure(places, colours);
                spots[code] = pen.spots;
                shares[code] = pen.shares;
                packs[code] = pen.packed(places);
                pen.stepOn(places, colours);
            }
        }

        private boolean has(int code) {
            return code >= 0 && code < size;
        }

        private boolean hasPlace(int i) {
            return i >= 0 && i < places;
        }

        private boolean isPeg(int peg) {
            return peg >= BLANK && peg < colours;
        }

        private boolean canBeTold(int answer) {
            return answer >= 0 && answer / 10 + answer % 10 <= places;
        }

        private int fullAnswer() {
            return 10 * places;
        }

        private int colourAt(int code, int place) {
            return packs[code] >>> 3 * place & 7;
        }

        /** 10 BLACKS + (ALIKE - BLACKS). */
        private int answerTo(int guessSpots, int guessShares, int code) {
            return 9 * Integer.bitCount(guessSpots & spots[code]) + Integer.bitCount(guessShares & shares[code]);
        }

        private int answerOfCodes(int guess, int code) {
            return answerTo(spots[guess], shares[guess], code);
        }

        /** NONE if a PEG is BLANK. */
        private int numberOf(Guess guess) {
            int number = 0;
            for (int i = 0; i < places; i++) {
                if (guess.pegs[i] == BLANK) {
                    return NONE;
                }
                number = number * colours + guess.pegs[i];
            }
            return number;
        }

        private boolean hasColourTwice(int code) {
            int seen = 0;
            for (int i = 0; i < places; i++) {
                int bit = 1 << colourAt(code, i);
                if ((seen & bit) != 0) {
                    return true;
                }
                seen |= bit;
            }
            return false;
        }

        private int sumOfColours(int code) {
            int sum = 0;
            for (int i = 0; i < places; i++) {
                sum += colourAt(code, i);
            }
            return sum;
        }
    }

    /** The LAW, LIES and TURNS, and the CODES that are ALLOWED and LEFT by them. */
    private static final class Play {
        private final CodeBook book;
        private final QuarrelFinder finder = new QuarrelFinder();
        private final int[] pegs = new int[MOST_TURNS * MOST_PLACES];
        private final int[] answers = new int[MOST_TURNS];
        private final boolean[] listed = new boolean[MOST_CODES];
        private final boolean[] allowed = new boolean[MOST_CODES];
        /** For each CODE a bit for each TURN that is FALSE for it. */
        private final int[] falseTurns = new int[MOST_CODES];
        private final int[] left = new int[MOST_CODES];
        private int law;
        private int told;
        private int lies;
        private int listSize;
        private int allowedCount;
        private int leftCount;
        private int turns;
        /** The TURNS of the kept QUARREL as bits, or NONE. */
        private int quarrel;
        /** Grows whenever LEFT may have changed, so that what was found for it can be known to be old. */
        private int changes;

        private Play(CodeBook book) {
            this.book = book;
        }

        private void startAnew() {
            for (int code = 0; code < book.size; code++) {
                listed[code] = false;
                falseTurns[code] = 0;
            }
            listSize = 0;
            lies = 0;
            turns = 0;
            quarrel = NONE;
            setLaw(LAW_ALL, 0);
        }

        private void setLaw(int newLaw, int newTold) {
            law = newLaw;
            told = newTold;
            allowedCount = 0;
            for (int code = 0; code < book.size; code++) {
                allowed[code] = isLawful(code);
                if (allowed[code]) {
                    allowedCount++;
                }
            }
            findLeft();
        }

        private boolean isLawful(int code) {
            switch (law) {
                case LAW_NO_TWICE: return !book.hasColourTwice(code);
                case LAW_SUM: return book.sumOfColours(code) == told;
                case LAW_LIST: return listed[code];
                default: return true;
            }
        }

        private void addToList(int code) {
            listed[code] = true;
            listSize++;
            if (law == LAW_LIST) {
                allowed[code] = true;
                allowedCount++;
                findLeft();
            }
        }

        private void setLies(int newLies) {
            lies = newLies;
            findLeft();
        }

        private boolean isLeft(int code) {
            return book.has(code) && allowed[code] && Integer.bitCount(falseTurns[code]) <= lies;
        }

        private void findLeft() {
            leftCount = 0;
            for (int code = 0; code < book.size; code++) {
                if (isLeft(code)) {
                    left[leftCount] = code;
                    leftCount++;
                }
            }
            changes++;
        }

        private boolean anyLeft() {
            for (int code = 0; code < book.size; code++) {
                if (isLeft(code)) {
                    return true;
                }
            }
            return false;
        }

        /** The TURN comes, or, if none would be LEFT, its QUARREL is kept instead. Fewer than MOST_TURNS are there. */
        private boolean accepts(Guess guess, int answer) {
            markFalse(guess, answer);
            if (!anyLeft()) {
                quarrel = finder.leastQuarrel(this, turns + 1);
                unmark();
                return false;
            }
            System.arraycopy(guess.pegs, 0, pegs, turns * MOST_PLACES, MOST_PLACES);
            answers[turns] = answer;
            turns++;
            findLeft();
            return true;
        }

        private void takeBack() {
            turns--;
            unmark();
            findLeft();
        }

        /** Marks are set and taken back for the TURN with the number turns: the one that comes or goes. */
        private void markFalse(Guess guess, int answer) {
            int bit = 1 << turns;
            for (int code = 0; code < book.size; code++) {
                if (book.answerTo(guess.spots, guess.shares, code) != answer) {
                    falseTurns[code] |= bit;
                }
            }
        }

        private void unmark() {
            int others = ~(1 << turns);
            for (int code = 0; code < book.size; code++) {
                falseTurns[code] &= others;
            }
        }

        private int leftWithFalse(int t) {
            int found = 0;
            for (int i = 0; i < leftCount; i++) {
                found += falseTurns[left[i]] >>> t & 1;
            }
            return found;
        }
    }

    /** Many CODES have the same FALSE TURNS, so these sets are gathered once each before QUARRELS are tried. */
    private static final class QuarrelFinder {
        private final boolean[] known = new boolean[1 << MOST_TURNS];
        private final int[] falseSets = new int[1 << MOST_TURNS];
        private int found;

        private int leastQuarrel(Play play, int turns) {
            gather(play, turns);
            int sets = 1 << turns;
            for (int size = 0; size <= turns; size++) {
                for (int set = 0; set < sets; set++) {
                    if (Integer.bitCount(set) == size && isQuarrel(set, play.lies)) {
                        return set;
                    }
                }
            }
            return sets - 1;
        }

        private void gather(Play play, int turns) {
            int sets = 1 << turns;
            for (int set = 0; set < sets; set++) {
                known[set] = false;
            }
            found = 0;
            for (int code = 0; code < play.book.size; code++) {
                int falseSet = play.falseTurns[code];
                if (play.allowed[code] && !known[falseSet]) {
                    known[falseSet] = true;
                    falseSets[found] = falseSet;
                    found++;
                }
            }
        }

        private boolean isQuarrel(int set, int lies) {
            for (int i = 0; i < found; i++) {
                if (Integer.bitCount(falseSets[i] & set) <= lies) {
                    bringForward(i);
                    return false;
                }
            }
            return true;
        }

        /** What spoilt one set is likely to spoil the next one: it is tried first there. */
        private void bringForward(int i) {
            int spoiler = falseSets[i];
            falseSets[i] = falseSets[0];
            falseSets[0] = spoiler;
        }
    }

    /** The PARTS of a GUESS: how many CODES that are LEFT have each ANSWER to it. */
    private static final class Parts {
        private final int[] sizes = new int[ANSWERS];
        private int number;
        private int greatest;

        private void divide(Play play, int spots, int shares) {
            Arrays.fill(sizes, 0);
            number = 0;
            greatest = 0;
            for (int i = 0; i < play.leftCount; i++) {
                int answer = play.book.answerTo(spots, shares, play.left[i]);
                sizes[answer]++;
                if (sizes[answer] == 1) {
                    number++;
                }
                if (sizes[answer] > greatest) {
                    greatest = sizes[answer];
                }
            }
        }

        private int answerOfPart(int i) {
            int ahead = 0;
            for (int answer = 0; answer < ANSWERS; answer++) {
                if (sizes[answer] > 0) {
                    if (ahead == i) {
                        return answer;
                    }
                    ahead++;
                }
            }
            return NONE;
        }
    }

    /** What among() tells; it is found once for all four questions while LEFT stays the same. */
    private static final class Survey {
        private int leastGreatest;
        private int mostParts;
        private int codeOfLeast;
        private int codeOfMost;
        private int changesSeen = -1;

        private void look(Play play, Parts parts) {
            if (changesSeen == play.changes) {
                return;
            }
            changesSeen = play.changes;
            leastGreatest = play.leftCount + 1;
            mostParts = 0;
            for (int code = 0; code < play.book.size; code++) {
                parts.divide(play, play.book.spots[code], play.book.shares[code]);
                if (parts.greatest < leastGreatest) {
                    leastGreatest = parts.greatest;
                    codeOfLeast = code;
                }
                if (parts.number > mostParts) {
                    mostParts = parts.number;
                    codeOfMost = code;
                }
            }
        }
    }

    /** All TURNINGS, one after the other. */
    private static final class Turnings {
        private final CodeBook book;
        private final int[] placeTo = new int[MOST_TURNED_PLACES];
        private final int[] colourTo = new int[MOST_TURNED_COLOURS];
        /** What a colour counts in a CODE's number, by places. */
        private final int[] worths = new int[MOST_TURNED_PLACES];

        private Turnings(CodeBook book) {
            this.book = book;
        }

        private boolean leads(Play play, int a, int b) {
            weighPlaces();
            int placeOrders = startOrders(placeTo, book.places);
            for (int p = 0; p < placeOrders; p++) {
                int colourOrders = startOrders(colourTo, book.colours);
                for (int q = 0; q < colourOrders; q++) {
                    if (imageOf(a) == b && keepsLeft(play)) {
                        return true;
                    }
                    stepOrder(colourTo, book.colours);
                }
                stepOrder(placeTo, book.places);
            }
            return false;
        }

        private void weighPlaces() {
            int worth = 1;
            for (int i = book.places - 1; i >= 0; i--) {
                worths[i] = worth;
                worth *= book.colours;
            }
        }

        private int imageOf(int code) {
            int image = 0;
            for (int i = 0; i < book.places; i++) {
                image += worths[placeTo[i]] * colourTo[book.colourAt(code, i)];
            }
            return image;
        }

        /** No two CODES become one, so it is enough that none that is LEFT becomes one that is not. */
        private boolean keepsLeft(Play play) {
            for (int i = 0; i < play.leftCount; i++) {
                if (!play.isLeft(imageOf(play.left[i]))) {
                    return false;
                }
            }
            return true;
        }

        /** The first order of 0 .. n - 1, rising: how many orders there are. */
        private static int startOrders(int[] order, int n) {
            int orders = 1;
            for (int i = 0; i < n; i++) {
                order[i] = i;
                orders *= i + 1;
            }
            return orders;
        }

        /** From an order to the next one, as words are ordered; the last one stays. */
        private static void stepOrder(int[] order, int n) {
            int fall = n - 2;
            while (fall >= 0 && order[fall] > order[fall + 1]) {
                fall--;
            }
            if (fall < 0) {
                return;
            }
            int above = n - 1;
            while (above > fall && order[above] < order[fall]) {
                above--;
            }
            exchange(order, fall, above);
            for (int low = fall + 1, high = n - 1; low < high; low++, high--) {
                exchange(order, low, high);
            }
        }

        private static void exchange(int[] order, int i, int j) {
            int kept = order[i];
            order[i] = order[j];
            order[j] = kept;
        }
    }

    /**
     * All TREES by one POOL for the CODES that are LEFT (at most 10, its members). A set of members is written
     * as bits. No TREE for n CODES is deeper than n, since each guess leaves fewer: so a depth above n, or 0,
     * asks no more than n does.
     */
    private static final class Forest {
        private static final int ROOM_FOR_SETS = 1 << MOST_IN_TREE;
        private static final int NO_SHORT = -1, ENTRY_BITS = 11, NO_LIMIT = 1000000;
        private static final int FULL_CLASS = 15;
        private static final int SLOT_BITS = 11, SLOTS = 1 << SLOT_BITS;
        /** Odd, and without a pattern in its bits: shapes that differ little come to slots that differ much. */
        private static final long SCATTER = 0x9E3779B97F4A7C15L;

        private final CodeBook book;
        private final boolean anyCode;
        private final int[] codes = new int[MOST_IN_TREE];
        private int members;
        private int places;
        private int colours;
        /**
         * Entries are the guesses worth trying, rising. CODES that divide the members alike are one entry, under
         * the least of them. An entry has its CODE, its bit if it is a member, and its classes: for each ANSWER
         * but FULL the members that have it.
         */
        private int entries;
        private final int[] guesses;
        private final int[] owns;
        private final int[] classCounts;
        private final int[] classes;
        private final long[] shapes;
        private final int[] slots;
        private final int[] classOfAnswer = new int[ANSWERS];
        /** By depth and set: 0 not known yet, NO_SHORT, or the least SUM and the entry that a SHORT TREE guesses. */
        private final int[] memo = new int[(MOST_IN_TREE + 1) * ROOM_FOR_SETS];

        private Forest(CodeBook book, boolean anyCode) {
            int room = anyCode ? MOST_CODES_FOR_TREES : MOST_IN_TREE;
            this.book = book;
            this.anyCode = anyCode;
            guesses = new int[room];
            owns = new int[room];
            classCounts = new int[room];
            classes = new int[room * MOST_IN_TREE];
            shapes = new long[room];
            slots = new int[anyCode ? SLOTS : 0];
        }

        /** Nothing is found anew while the members stay the same: what is known of them may be used again. */
        private void standFor(Play play) {
            if (standsFor(play)) {
                return;
            }
            places = book.places;
            colours = book.colours;
            members = Math.min(play.leftCount, MOST_IN_TREE);
            System.arraycopy(play.left, 0, codes, 0, members);
            Arrays.fill(memo, 0);
            Arrays.fill(slots, 0);
            entries = 0;
            int candidates = anyCode ? book.size : members;
            for (int i = 0; i < candidates; i++) {
                enter(anyCode ? i : codes[i]);
            }
        }

        private boolean standsFor(Play play) {
            if (places != book.places || colours != book.colours || members != play.leftCount) {
                return false;
            }
            for (int i = 0; i < members; i++) {
                if (codes[i] != play.left[i]) {
                    return false;
                }
            }
            return true;
        }

        private void enter(int guess) {
            if (entries >= guesses.length) {
                return;
            }
            long shape = classify(guess);
            if (anyCode) {
                int slot = slotOf(shape);
                if (slots[slot] != 0) {
                    return;
                }
                slots[slot] = entries + 1;
            }
            guesses[entries] = guess;
            owns[entries] = bitOf(guess);
            shapes[entries] = shape;
            entries++;
        }

        /** Writes the classes of the entry that is being made. Their shape has four bits for each member's class. */
        private long classify(int guess) {
            int base = entries * MOST_IN_TREE;
            int used = 0;
            long shape = 0;
            Arrays.fill(classOfAnswer, NONE);
            classOfAnswer[book.fullAnswer()] = FULL_CLASS;
            for (int i = 0; i < members; i++) {
                int answer = book.answerOfCodes(guess, codes[i]);
                if (classOfAnswer[answer] == NONE) {
                    classOfAnswer[answer] = used;
                    classes[base + used] = 0;
                    used++;
                }
                int group = classOfAnswer[answer];
                if (group != FULL_CLASS) {
                    classes[base + group] |= 1 << i;
                }
                shape |= (long) group << 4 * i;
            }
            classCounts[entries] = used;
            return shape;
        }

        /** Where a shape is known, or else would be: there are more slots than entries, so one is always free. */
        private int slotOf(long shape) {
            int slot = (int) (shape * SCATTER >>> 64 - SLOT_BITS);
            for (int tries = 0; tries < SLOTS; tries++) {
                int entry = slots[slot] - 1;
                if (entry < 0 || shapes[entry] == shape) {
                    return slot;
                }
                slot = slot + 1 & SLOTS - 1;
            }
            return slot;
        }

        private int bitOf(int code) {
            for (int i = 0; i < members; i++) {
                if (codes[i] == code) {
                    return 1 << i;
                }
            }
            return 0;
        }

        private int allMembers() {
            return (1 << members) - 1;
        }

        private int bounded(int depth) {
            return depth == 0 || depth > members ? members : depth;
        }

        private int leastSumWithin(int depth) {
            return leastSum(allMembers(), bounded(depth));
        }

        private int firstOfLeastSum(int depth) {
            return shortGuess(allMembers(), bounded(depth));
        }

        private int leastDepth() {
            int depth = 1;
            while (depth < members && leastSum(allMembers(), depth) == 0) {
                depth++;
            }
            return depth;
        }

        private int firstOfLeastDepth() {
            int depth = leastDepth();
            if (members > 1) {
                for (int entry = 0; entry < entries; entry++) {
                    if (sumBehind(entry, allMembers(), depth, NO_LIMIT) > 0) {
                        return guesses[entry];
                    }
                }
            }
            return codes[0];
        }

        /** The least SUM of a TREE for a set that is at most so deep; 0 if there is none. */
        private int leastSum(int set, int depth) {
            int size = Integer.bitCount(set);
            if (size == 0 || depth < 1) {
                return 0;
            }
            if (size == 1) {
                return 1;
            }
            if (depth < 2) {
                return 0;
            }
            if (size == 2) {
                return 3;
            }
            int known = shortOf(set, Math.min(depth, size));
            return known == NO_SHORT ? 0 : known >>> ENTRY_BITS;
        }

        private int shortOf(int set, int depth) {
            int place = depth * ROOM_FOR_SETS + set;
            if (memo[place] == 0) {
                memo[place] = findShort(set, depth);
            }
            return memo[place];
        }

        private int findShort(int set, int depth) {
            int size = Integer.bitCount(set);
            int floor = 2 * size - 1;
            int least = NO_LIMIT;
            int first = 0;
            for (int entry = 0; entry < entries && least > floor; entry++) {
                int sum = sumBehind(entry, set, depth, least);
                if (sum > 0) {
                    least = sum;
                    first = entry;
                }
            }
            return least == NO_LIMIT ? NO_SHORT : least << ENTRY_BITS | first;
        }

        /**
         * The least SUM of a TREE for a set of two or more, at most so deep, that guesses an entry first; 0 if
         * there is none below the limit. The bound starts as if each ANSWER's TREE found all its CODES by the
         * second guess, and is put right by one ANSWER after the other.
         */
        private int sumBehind(int entry, int set, int depth, int limit) {
            boolean isIn = (owns[entry] & set) != 0;
            int divided = classesIn(entry, set);
            if (isIn ? divided < 1 : !anyCode || divided < 2) {
                return 0;
            }
            int bound = 3 * Integer.bitCount(set) - divided - (isIn ? 2 : 0);
            int base = entry * MOST_IN_TREE;
            for (int k = 0; k < classCounts[entry] && bound < limit; k++) {
                int part = classes[base + k] & set;
                if (part != 0) {
                    int least = leastSum(part, depth - 1);
                    if (least == 0) {
                        return 0;
                    }
                    bound += least - (2 * Integer.bitCount(part) - 1);
                }
            }
            return bound < limit ? bound : 0;
        }

        private int classesIn(int entry, int set) {
            int base = entry * MOST_IN_TREE;
            int found = 0;
            for (int k = 0; k < classCounts[entry]; k++) {
                if ((classes[base + k] & set) != 0) {
                    found++;
                }
            }
            return found;
        }

        /** What the SHORT TREE for a set guesses first; one or two CODES are best begun with the least of them. */
        private int shortGuess(int set, int depth) {
            int size = Integer.bitCount(set);
            if (size > 2) {
                int known = shortOf(set, Math.min(depth, size));
                return known == NO_SHORT ? NONE : guesses[known & (1 << ENTRY_BITS) - 1];
            }
            for (int i = 0; i < members; i++) {
                if ((set >>> i & 1) != 0) {
                    return codes[i];
                }
            }
            return NONE;
        }

        private void plant(Tree tree, int depth) {
            tree.nodes = 0;
            grow(tree, allMembers(), bounded(depth), NONE, NONE);
        }

        private void grow(Tree tree, int set, int depth, int origin, int originAnswer) {
            if (depth < 1 || tree.nodes >= MOST_TREE_NODES) {
                return;
            }
            int guess = shortGuess(set, depth);
            if (guess == NONE) {
                return;
            }
            int here = tree.nodes;
            tree.add(guess, origin, originAnswer, Integer.bitCount(set));
            int answer = nextAnswer(guess, set, -1);
            for (int k = 0; k < MOST_IN_TREE && answer != NONE; k++) {
                grow(tree, withAnswer(guess, set, answer), depth - 1, here, answer);
                answer = nextAnswer(guess, set, answer);
            }
        }

        /** The least ANSWER above one, but FULL, that a set has to a guess. */
        private int nextAnswer(int guess, int set, int above) {
            int next = book.fullAnswer();
            for (int i = 0; i < members; i++) {
                if ((set >>> i & 1) != 0) {
                    int answer = book.answerOfCodes(guess, codes[i]);
                    if (answer > above && answer < next) {
                        next = answer;
                    }
                }
            }
            return next == book.fullAnswer() ? NONE : next;
        }

        private int withAnswer(int guess, int set, int answer) {
            int having = 0;
            for (int i = 0; i < members; i++) {
                if ((set >>> i & 1) != 0 && book.answerOfCodes(guess, codes[i]) == answer) {
                    having |= 1 << i;
                }
            }
            return having;
        }
    }

    /** THE TREE. A TREE for n CODES has at most n guesses that are one of its own, and n - 1 that are not. */
    private static final class Tree {
        private final int[] guesses = new int[MOST_TREE_NODES];
        private final int[] origins = new int[MOST_TREE_NODES];
        private final int[] answers = new int[MOST_TREE_NODES];
        private final int[] sizes = new int[MOST_TREE_NODES];
        private final int[] levels = new int[MOST_TREE_NODES];
        private int nodes;

        private void add(int guess, int origin, int answer, int size) {
            if (nodes >= MOST_TREE_NODES) {
                return;
            }
            guesses[nodes] = guess;
            origins[nodes] = origin;
            answers[nodes] = answer;
            sizes[nodes] = size;
            levels[nodes] = origin < 0 ? 1 : levels[origin] + 1;
            nodes++;
        }
    }

    /** THE PLAN. Sets of ANSWERS and of NODES are written as bits of a long. */
    private static final class Plan {
        private final int[] parents = new int[MOST_PLANNED];
        private final int[] answers = new int[MOST_PLANNED];
        private final int[] guesses = new int[MOST_PLANNED];
        private final int[] levels = new int[MOST_PLANNED];
        /** The ANSWERS of the NODES whose PARENT a NODE is, and whether two of these have the same one. */
        private final long[] planned = new long[MOST_PLANNED];
        private final boolean[] plannedTwice = new boolean[MOST_PLANNED];
        /** The ANSWERS but FULL that CODES MEANT for a NODE have. */
        private final long[] wanted = new long[MOST_PLANNED];
        private final int[] replies = new int[MOST_PLANNED];
        private int nodes;
        private int deepest;
        private int guessesMade;

        private void empty() {
            nodes = 0;
            deepest = 0;
        }

        private boolean has(int node) {
            return node >= 0 && node < nodes;
        }

        private void add(int parent, int answer, int guess) {
            parents[nodes] = parent;
            answers[nodes] = answer;
            guesses[nodes] = guess;
            planned[nodes] = 0;
            plannedTwice[nodes] = false;
            levels[nodes] = 1;
            if (has(parent)) {
                long bit = 1L << answer;
                if ((planned[parent] & bit) != 0) {
                    plannedTwice[parent] = true;
                }
                planned[parent] |= bit;
                levels[nodes] = levels[parent] + 1;
            }
            deepest = Math.max(deepest, levels[nodes]);
            nodes++;
        }

        private void follow(Play play) {
            guessesMade = 0;
            Arrays.fill(wanted, 0L);
            for (int i = 0; i < play.leftCount; i++) {
                followCode(play.book, play.left[i]);
            }
        }

        /** A PARENT comes before its NODES, so one walk in their order finds all for which the CODE is MEANT. */
        private void followCode(CodeBook book, int code) {
            long meant = 0;
            for (int k = 0; k < nodes; k++) {
                int parent = parents[k];
                if (k == 0 || (meant >>> parent & 1) != 0 && replies[parent] == answers[k]) {
                    meant |= 1L << k;
                    guessesMade++;
                    replies[k] = book.answerOfCodes(guesses[k], code);
                    if (replies[k] != book.fullAnswer()) {
                        wanted[k] |= 1L << replies[k];
                    }
                }
            }
        }

        private int firstNotWhole() {
            for (int k = 0; k < nodes; k++) {
                if (plannedTwice[k] || planned[k] != wanted[k]) {
                    return k;
                }
            }
            return NONE;
        }
    }

    /** A SHELF. A ROW and the PEGS of a KEPT GUESS both stand in its cells, the numbers as their sort holds them. */
    private static final class Shelf {
        private final int[] cells = new int[MOST_CELLS];
        private int holds = HOLDS_NOTHING;
        private int length;
        private int sort;

        private void holdRow(int sortOfRow, int n) {
            holds = sortOfRow;
            length = n;
            Arrays.fill(cells, 0);
        }

        private void holdGuess(Guess guess, int places, int sortOfGuess) {
            holds = HOLDS_GUESS;
            length = places;
            sort = sortOfGuess;
            System.arraycopy(guess.pegs, 0, cells, 0, places);
        }

        /** 0 if it holds a ROW. */
        private int whyNoRow() {
            if (holds == HOLDS_NOTHING) {
                return NOTHING;
            }
            return holds == HOLDS_GUESS ? CAST : 0;
        }

        /** 0 if it holds a KEPT GUESS. */
        private int whyNoGuess() {
            if (holds == HOLDS_NOTHING) {
                return NOTHING;
            }
            return holds == HOLDS_GUESS ? 0 : CAST;
        }

        /** Written so that no sum of two large numbers wraps around. */
        private boolean hasCells(int i, int n) {
            return n >= 0 && i >= 0 && n <= length && i <= length - n;
        }

        private int narrowed(int v) {
            switch (holds) {
                case HOLDS_BYTES: return (byte) v;
                case HOLDS_CHARS: return (char) v;
                default: return (short) v;
            }
        }

        /** A char can't be -1: there the greatest one is BLANK. */
        private int pegAt(int i) {
            return holds == HOLDS_CHARS && cells[i] == BLANK_CHAR ? BLANK : cells[i];
        }

        private int pegsSet() {
            int set = 0;
            for (int i = 0; i < length; i++) {
                if (cells[i] != BLANK) {
                    set++;
                }
            }
            return set;
        }

        private int weight() {
            int plain = pegsSet();
            int fitting = plain + 10;
            switch (sort) {
                case SORT_FITTING: return fitting;
                case SORT_SURE: return 2 * fitting;
                case SORT_BLANK: return plain - (length - plain);
                case SORT_LAST: return 2 * fitting + 1;
                default: return plain;
            }
        }

        private int rank() {
            switch (sort) {
                case SORT_FITTING: return 2;
                case SORT_SURE: return 2;
                case SORT_BLANK: return 0;
                case SORT_LAST: return 7;
                default: return 1;
            }
        }

        private void failIfAnyPeg() {
            if (pegsSet() > 0) {
                throw new IllegalStateException("the failure of a kept guess");
            }
        }
    }
}
