import java.util.NoSuchElementException;

/** A tollhouse at a ford with stepping stones; README.md says how to use it. */
public final class FordToll {
    private static final int STONES = 10;
    private static final int NEAR_BANK = -1;
    private static final int FAR_BANK = STONES;

    private static final int LOWEST_HEIGHT = 1;
    private static final int HIGHEST_HEIGHT = 30;
    private static final int FIRST_HEIGHT = 10;

    private static final int LOWEST_FLOOD = 4;
    private static final int HIGHEST_FLOOD = 40;
    private static final int FALL = 2;
    private static final int MOST_RAIN = 9;

    private static final int DRY = 0;
    private static final int AWASH = 1;
    private static final int UNDER = 2;
    private static final int AWASH_BY = 2;

    private static final int WALKER = 0;
    private static final int CARRIER = 1;
    private static final int DONKEY = 2;
    private static final int MOST_WALKER_LOAD = 3;
    private static final int MOST_CARRIER_LOAD = 8;
    private static final int MOST_LOAD = 20;
    private static final int MOST_TRAVELLERS = 8;
    private static final int NOBODY = -1;

    private static final int MOST_WET = 20;
    private static final int TOO_WET = 12;
    private static final int WET_BY_GOING_BACK = 5;
    private static final int WET_BY_AWASH = 2;
    private static final int DRIED_BY_AIR = 1;
    private static final int DRIED_BY_STOVE = 3;

    private static final int MOST_LETTERS_PUT = 50;
    private static final int MOST_LETTERS_IN_BAG = 99;
    private static final int MOST_LETTERS_TAKEN = 12;
    private static final int LETTERS_LESS_BY_LOAD = 3;

    private static final int FOOT_FEE = 2;
    private static final int DONKEY_FEE = 4;
    private static final int LOAD_BY_COIN = 5;

    private static final int MOST_HOURS_PASSED = 24;
    private static final int MOST_HOURS_AHEAD = 60;
    private static final int NEVER = -1;

    private static final int FULL_HOUSE = 1;
    private static final int HAS_SET_OUT = 2;
    private static final int HAS_NOT_SET_OUT = 3;
    private static final int IS_TOO_WET = 4;
    private static final int FULL_BAG = 5;
    private static final int STONE_IN_USE = 6;
    private static final int STOPPED_OR_NOT = 7;

    // The numbers of a traveller that travellerOf tells, and one more, which only questions look at.
    private static final int OF_KIND = 0;
    private static final int OF_LOAD = 1;
    private static final int OF_WET = 2;
    private static final int OF_PLACE = 3;
    private static final int OF_OUT = 4;
    private static final int OF_WAY = 5;
    private static final int OF_STOPPED = 6;
    private static final int OF_CROSSED = 7;
    private static final int OF_MAIL = 8;
    private static final int OF_REGION = 9;

    private static final int ON_NEAR_BANK = 0;
    private static final int ON_STONE = 1;
    private static final int ON_FAR_BANK = 2;

    private static final int LAST_ACCOUNT = 18;
    private static final int CHANGES_KEPT = 8;
    private static final int MOST_CHARACTERS = 60;
    private static final int MOST_OPEN = 4;
    private static final int NO_ERROR = -1;
    private static final int LINE_ROOM = STONES + 3;
    private static final int ANY_NUMBER = -1;
    private static final int NO_REFUSAL = 0;

    private static final Word[] WORDS = Word.values();

    private final Ford now = new Ford();
    private final History history = new History();
    private final Ford snapshot = new Ford();
    private boolean hasSnapshot = false;

    private final Question question = new Question();
    private int errorAt = NO_ERROR;
    private final int[] answered = new int[MOST_TRAVELLERS];
    private int answeredCount = 0;

    private int refusedReason = NO_REFUSAL;
    private int refusedDetail = 0;

    private final char[] line = new char[LINE_ROOM];
    private int lineLength = 0;

    public FordToll() {
    }

    // ---- the ford ----

    public int height(int stone, int height)
            throws IndexOutOfBoundsException, IllegalArgumentException, UnsupportedOperationException {
        checkStone(stone);
        checkRange(height, LOWEST_HEIGHT, HIGHEST_HEIGHT);
        int lowest = now.lowestOn(stone);
        if (lowest != NOBODY) {
            refuse(STONE_IN_USE, lowest);
        }
        history.keep(now);
        int before = now.heights[stone];
        now.heights[stone] = height;
        return before;
    }

    public int rain(int rain) throws IllegalArgumentException {
        checkRange(rain, 0, MOST_RAIN);
        history.keep(now);
        int before = now.rainfall;
        now.rainfall = rain;
        return before;
    }

    public int letters(int many) throws IllegalArgumentException, UnsupportedOperationException {
        checkRange(many, 1, MOST_LETTERS_PUT);
        if (now.bag + many > MOST_LETTERS_IN_BAG) {
            refuse(FULL_BAG, now.bag);
        }
        history.keep(now);
        now.bag += many;
        now.lettersPut += many;
        return now.bag;
    }

    public int stoneOf(int stone, int what) throws IndexOutOfBoundsException, IllegalArgumentException {
        checkStone(stone);
        checkRange(what, 0, 2);
        if (what == 0) {
            return now.heights[stone];
        }
        return what == 1 ? now.stateOf(stone, now.level) : now.countOn(stone);
    }

    public int under() {
        int bits = 0;
        for (int stone = 0; stone < STONES; stone++) {
            if (now.stateOf(stone, now.level) == UNDER) {
                bits |= 1 << stone;
            }
        }
        return bits;
    }

    public int flood(int hours) throws IllegalArgumentException {
        checkRange(hours, 0, MOST_HOURS_AHEAD);
        int level = now.level;
        for (int hour = 0; hour < hours; hour++) {
            level = now.levelAfterHour(level);
        }
        return level;
    }

    public int floodAgain(int hours) throws IllegalArgumentException {
        checkRange(hours, 0, MOST_HOURS_AHEAD);
        return now.levelOnTheWayToRest(hours);
    }

    public int clearIn() throws NoSuchElementException {
        int lowest = now.lowestHeight();
        int level = now.level;
        for (int hours = 0; hours <= MOST_HOURS_AHEAD; hours++) {
            if (level <= lowest) {
                return hours;
            }
            level = now.levelAfterHour(level);
        }
        throw new NoSuchElementException("a stone stays under");
    }

    // ---- travellers ----

    public int traveller(int load) throws IllegalArgumentException, UnsupportedOperationException {
        checkRange(load, 0, MOST_LOAD);
        if (now.count >= MOST_TRAVELLERS) {
            refuse(FULL_HOUSE, now.count);
        }
        history.keep(now);
        return now.welcome(load);
    }

    public int travellerOf(int traveller, int what) throws IndexOutOfBoundsException, IllegalArgumentException {
        Traveller one = found(traveller);
        checkRange(what, OF_KIND, OF_MAIL);
        return one.numberOf(what);
    }

    public int fee(int traveller) throws IndexOutOfBoundsException {
        return found(traveller).toll();
    }

    public int setOut(int traveller) throws IndexOutOfBoundsException, UnsupportedOperationException {
        Traveller one = found(traveller);
        if (one.out) {
            refuse(HAS_SET_OUT, one.place);
        }
        if (one.wet >= TOO_WET) {
            refuse(IS_TOO_WET, one.wet);
        }
        history.keep(now);
        return now.startCrossing(one);
    }

    public int stop(int traveller) throws IndexOutOfBoundsException, UnsupportedOperationException {
        return setStopped(traveller, true);
    }

    public int go(int traveller) throws IndexOutOfBoundsException, UnsupportedOperationException {
        return setStopped(traveller, false);
    }

    public int leave(int traveller) throws IndexOutOfBoundsException, UnsupportedOperationException {
        Traveller one = found(traveller);
        if (one.out) {
            refuse(HAS_SET_OUT, one.place);
        }
        history.keep(now);
        int crossed = one.crossed;
        now.takeAway(traveller);
        return crossed;
    }

    public int pass(int hours) throws IllegalArgumentException {
        checkRange(hours, 1, MOST_HOURS_PASSED);
        history.keep(now);
        int before = now.crossings;
        for (int hour = 0; hour < hours; hour++) {
            now.letHourGoBy();
        }
        return now.crossings - before;
    }

    public int crossedIn(int traveller) throws IndexOutOfBoundsException, NoSuchElementException {
        int hours = now.hoursToCross(found(traveller));
        if (hours == NEVER) {
            throw new NoSuchElementException("the traveller does not come to the other bank");
        }
        return hours;
    }

    public int wetSteps(int kind) throws IllegalArgumentException, NoSuchElementException {
        checkRange(kind, WALKER, DONKEY);
        int steps = now.wetStepsOf(kind);
        if (steps == NEVER) {
            throw new NoSuchElementException("such a traveller could not cross");
        }
        return steps;
    }

    public int kinds() {
        int bits = 0;
        for (int kind = WALKER; kind <= DONKEY; kind++) {
            if (now.wetStepsOf(kind) != NEVER) {
                bits |= 1 << kind;
            }
        }
        return bits;
    }

    // ---- questions, lines ----

    public int type(char character) throws IllegalStateException {
        if (question.isFull()) {
            throw new IllegalStateException("the input buffer is full");
        }
        return question.append(character);
    }

    public int ask() throws IllegalArgumentException {
        int bits = question.readFor(now);
        question.empty();
        if (question.fault != NO_ERROR) {
            errorAt = question.fault;
            throw new IllegalArgumentException("the question is malformed");
        }
        keepAnswer(bits);
        return answeredCount;
    }

    public int answer(int index) throws NoSuchElementException {
        if (index < 0 || index >= answeredCount) {
            throw new NoSuchElementException("the answer has no such traveller");
        }
        return answered[index];
    }

    public int errorPosition() throws NoSuchElementException {
        if (errorAt == NO_ERROR) {
            throw new NoSuchElementException("no question was malformed");
        }
        return errorAt;
    }

    public int refusal(boolean isDetail) throws NoSuchElementException {
        if (refusedReason == NO_REFUSAL) {
            throw new NoSuchElementException("nothing was refused");
        }
        return isDetail ? refusedDetail : refusedReason;
    }

    public int describe() {
        for (int stone = 0; stone < STONES; stone++) {
            line[stone] = signOf(stone);
        }
        line[STONES] = ' ';
        lineLength = STONES + 1;
        if (now.level >= 10) {
            writeDigit(now.level / 10);
        }
        writeDigit(now.level % 10);
        return lineLength;
    }

    public char written(int index) throws NoSuchElementException {
        if (index < 0 || index >= lineLength) {
            throw new NoSuchElementException("the line has no such character");
        }
        return line[index];
    }

    // ---- accounts ----

    public int account(int what) throws IllegalArgumentException {
        checkRange(what, 0, LAST_ACCOUNT);
        switch (what) {
            case 0: return now.hour;
            case 1: return now.level;
            case 2: return now.rainfall;
            case 3: return now.count;
            case 4: return now.countIn(ON_NEAR_BANK);
            case 5: return now.countIn(ON_STONE);
            case 6: return now.countIn(ON_FAR_BANK);
            case 7: return now.sumOf(OF_OUT);
            case 8: return now.bag;
            case 9: return now.sumOf(OF_MAIL);
            case 10: return now.lettersDelivered;
            case 11: return now.lettersPut;
            case 12: return now.chest;
            case 13: return now.crossings;
            case 14: return now.retreats;
            case 15: return now.sumOf(OF_WET);
            case 16: return answeredCount;
            case 17: return question.length;
            default: return history.count;
        }
    }

    public int lettersAgain() {
        return now.lettersPut - now.lettersDelivered - now.sumOf(OF_MAIL);
    }

    public double meanWet() throws ArithmeticException {
        if (now.count == 0) {
            throw new ArithmeticException("there are no travellers");
        }
        return (double) now.sumOf(OF_WET) / (double) now.count;
    }

    public float crossingShare() throws ArithmeticException {
        int all = now.crossings + now.retreats;
        if (all == 0) {
            throw new ArithmeticException("nobody crossed or went back");
        }
        return (float) now.crossings / (float) all;
    }

    // ---- undo, the snapshot ----

    public int undo() throws IllegalStateException {
        if (history.count == 0) {
            throw new IllegalStateException("no change can be undone");
        }
        history.takeBack(now);
        return history.count;
    }

    public int save() {
        snapshot.copyFrom(now);
        hasSnapshot = true;
        return now.hour;
    }

    public int restore() throws IllegalStateException {
        if (!hasSnapshot) {
            throw new IllegalStateException("there is no snapshot");
        }
        now.copyFrom(snapshot);
        history.forget();
        return now.hour;
    }

    // ---- what several calls share ----

    private static void checkStone(int stone) {
        if (stone < 0 || stone >= STONES) {
            throw new IndexOutOfBoundsException("no such stone");
        }
    }

    private static void checkRange(int number, int least, int most) {
        if (number < least || number > most) {
            throw new IllegalArgumentException("a number is out of range");
        }
    }

    private Traveller found(int traveller) {
        if (traveller < 0 || traveller >= now.count) {
            throw new IndexOutOfBoundsException("no such traveller");
        }
        return now.travellers[traveller];
    }

    /** Never returns: the refusal is kept, and then thrown. */
    private void refuse(int reason, int detail) {
        refusedReason = reason;
        refusedDetail = detail;
        throw new UnsupportedOperationException("the call is refused");
    }

    private int setStopped(int traveller, boolean stopped) {
        Traveller one = found(traveller);
        if (!one.out) {
            refuse(HAS_NOT_SET_OUT, one.place);
        }
        if (one.stopped == stopped) {
            refuse(STOPPED_OR_NOT, traveller);
        }
        history.keep(now);
        one.stopped = stopped;
        return one.place;
    }

    private void keepAnswer(int bits) {
        answeredCount = 0;
        for (int traveller = 0; traveller < MOST_TRAVELLERS; traveller++) {
            if ((bits >> traveller & 1) != 0) {
                answered[answeredCount] = traveller;
                answeredCount++;
            }
        }
    }

    private char signOf(int stone) {
        int lowest = now.lowestOn(stone);
        if (lowest != NOBODY) {
            return (char) ('0' + lowest);
        }
        int state = now.stateOf(stone, now.level);
        if (state == UNDER) {
            return '_';
        }
        return state == AWASH ? '~' : '.';
    }

    private void writeDigit(int digit) {
        if (lineLength < LINE_ROOM) {
            line[lineLength] = (char) ('0' + digit);
            lineLength++;
        }
    }

    private static boolean isStone(int place) {
        return place >= 0 && place < STONES;
    }

    private static final class Traveller {
        private int load = 0;
        private int wet = 0;
        private int place = NEAR_BANK;
        private boolean out = false;
        private boolean toFar = true;
        private boolean stopped = false;
        private int crossed = 0;
        private int mail = 0;

        void arrive(int newLoad) {
            load = newLoad;
            wet = 0;
            place = NEAR_BANK;
            out = false;
            toFar = true;
            stopped = false;
            crossed = 0;
            mail = 0;
        }

        void copyFrom(Traveller other) {
            load = other.load;
            wet = other.wet;
            place = other.place;
            out = other.out;
            toFar = other.toFar;
            stopped = other.stopped;
            crossed = other.crossed;
            mail = other.mail;
        }

        int kind() {
            if (load <= MOST_WALKER_LOAD) {
                return WALKER;
            }
            return load <= MOST_CARRIER_LOAD ? CARRIER : DONKEY;
        }

        int toll() {
            int byFeet = kind() == DONKEY ? DONKEY_FEE : FOOT_FEE;
            return byFeet + load / LOAD_BY_COIN;
        }

        int region() {
            if (place == NEAR_BANK) {
                return ON_NEAR_BANK;
            }
            return place == FAR_BANK ? ON_FAR_BANK : ON_STONE;
        }

        void getWetter(int by) {
            wet = Math.min(MOST_WET, wet + by);
        }

        void getDrier(int by) {
            wet = Math.max(0, wet - by);
        }

        void restOnBank() {
            out = false;
            stopped = false;
        }

        int numberOf(int what) {
            switch (what) {
                case OF_KIND: return kind();
                case OF_LOAD: return load;
                case OF_WET: return wet;
                case OF_PLACE: return place;
                case OF_OUT: return out ? 1 : 0;
                case OF_WAY: return toFar ? 1 : 0;
                case OF_STOPPED: return stopped ? 1 : 0;
                case OF_CROSSED: return crossed;
                case OF_MAIL: return mail;
                default: return region();
            }
        }
    }

    /** All that changes can change. */
    private static final class Ford {
        private final int[] heights = new int[STONES];
        private final Traveller[] travellers = new Traveller[MOST_TRAVELLERS];
        private int count = 0;
        private int hour = 0;
        private int level = LOWEST_FLOOD;
        private int rainfall = 0;
        private int bag = 0;
        private int lettersDelivered = 0;
        private int lettersPut = 0;
        private int chest = 0;
        private int crossings = 0;
        private int retreats = 0;

        Ford() {
            for (int stone = 0; stone < STONES; stone++) {
                heights[stone] = FIRST_HEIGHT;
            }
            for (int index = 0; index < MOST_TRAVELLERS; index++) {
                travellers[index] = new Traveller();
            }
        }

        void copyFrom(Ford other) {
            for (int stone = 0; stone < STONES; stone++) {
                heights[stone] = other.heights[stone];
            }
            for (int index = 0; index < other.count; index++) {
                travellers[index].copyFrom(other.travellers[index]);
            }
            count = other.count;
            hour = other.hour;
            level = other.level;
            rainfall = other.rainfall;
            bag = other.bag;
            lettersDelivered = other.lettersDelivered;
            lettersPut = other.lettersPut;
            chest = other.chest;
            crossings = other.crossings;
            retreats = other.retreats;
        }

        // ---- stones and flood ----

        int stateOf(int stone, int flood) {
            int above = heights[stone] - flood;
            if (above < 0) {
                return UNDER;
            }
            return above <= AWASH_BY ? AWASH : DRY;
        }

        int lowestHeight() {
            int lowest = HIGHEST_HEIGHT;
            for (int stone = 0; stone < STONES; stone++) {
                lowest = Math.min(lowest, heights[stone]);
            }
            return lowest;
        }

        int levelAfterHour(int flood) {
            int risen = Math.min(HIGHEST_FLOOD, flood + rainfall);
            return Math.max(LOWEST_FLOOD, risen - FALL);
        }

        /** What rises is cut at the top before it falls, so that a rising flood rests by the fall below the top. */
        int levelOnTheWayToRest(int hours) {
            int moved = level + (rainfall - FALL) * hours;
            if (rainfall < FALL) {
                return Math.max(LOWEST_FLOOD, moved);
            }
            return Math.min(HIGHEST_FLOOD - FALL, moved);
        }

        // ---- who is where ----

        int lowestOn(int stone) {
            for (int index = 0; index < count; index++) {
                if (travellers[index].place == stone) {
                    return index;
                }
            }
            return NOBODY;
        }

        int countOn(int stone) {
            int found = 0;
            for (int index = 0; index < count; index++) {
                if (travellers[index].place == stone) {
                    found++;
                }
            }
            return found;
        }

        int countIn(int region) {
            int found = 0;
            for (int index = 0; index < count; index++) {
                if (travellers[index].region() == region) {
                    found++;
                }
            }
            return found;
        }

        int sumOf(int what) {
            int sum = 0;
            for (int index = 0; index < count; index++) {
                sum += travellers[index].numberOf(what);
            }
            return sum;
        }

        int welcome(int load) {
            int index = count;
            if (index < MOST_TRAVELLERS) {
                travellers[index].arrive(load);
                count++;
            }
            return index;
        }

        void takeAway(int traveller) {
            for (int index = traveller; index < count - 1; index++) {
                travellers[index].copyFrom(travellers[index + 1]);
            }
            count--;
        }

        // ---- crossing ----

        int startCrossing(Traveller one) {
            one.out = true;
            if (one.kind() == WALKER && one.place == NEAR_BANK) {
                int room = MOST_LETTERS_TAKEN - LETTERS_LESS_BY_LOAD * one.load;
                one.mail = Math.min(room, bag);
                bag -= one.mail;
            }
            int toll = one.toll();
            chest += toll;
            return toll;
        }

        boolean canGo(int kind, int from, int to, int flood) {
            if (!isStone(to)) {
                return true;
            }
            int state = stateOf(to, flood);
            if (state != AWASH) {
                return state == DRY;
            }
            if (kind == CARRIER) {
                return !isStone(from) || heights[to] >= heights[from];
            }
            return kind == WALKER;
        }

        int placeAfterStep(int kind, int place, boolean toFar, int flood) {
            int next = toFar ? place + 1 : place - 1;
            return canGo(kind, place, next, flood) ? next : place;
        }

        /** The place itself if it is not a stone that is under. */
        int placeAfterGoingBack(int place, boolean toFar, int flood) {
            int back = place;
            for (int step = 0; step < STONES; step++) {
                if (!isStone(back) || stateOf(back, flood) != UNDER) {
                    return back;
                }
                back = toFar ? back - 1 : back + 1;
            }
            return back;
        }

        int wetStepsOf(int kind) {
            int steps = 0;
            for (int stone = 0; stone < STONES; stone++) {
                if (!canGo(kind, stone - 1, stone, level)) {
                    return NEVER;
                }
                if (stateOf(stone, level) == AWASH) {
                    steps++;
                }
            }
            return steps;
        }

        /** Travellers do not hinder one another, so that one alone tells when it comes over. */
        int hoursToCross(Traveller one) {
            if (!one.out || one.stopped) {
                return NEVER;
            }
            int kind = one.kind();
            int place = one.place;
            int flood = level;
            for (int hours = 1; hours <= MOST_HOURS_AHEAD; hours++) {
                flood = levelAfterHour(flood);
                int back = placeAfterGoingBack(place, one.toFar, flood);
                if (back != place && !isStone(back)) {
                    return NEVER;
                }
                place = placeAfterStep(kind, back, one.toFar, flood);
                if (place == (one.toFar ? FAR_BANK : NEAR_BANK)) {
                    return hours;
                }
            }
            return NEVER;
        }

        // ---- an hour ----

        void letHourGoBy() {
            level = levelAfterHour(level);
            for (int index = 0; index < count; index++) {
                sendBack(travellers[index]);
            }
            for (int index = 0; index < count; index++) {
                sendOn(travellers[index]);
            }
            for (int index = 0; index < count; index++) {
                wetOrDry(travellers[index]);
            }
            heat(NEAR_BANK);
            heat(FAR_BANK);
            hour++;
        }

        private void sendBack(Traveller one) {
            int back = placeAfterGoingBack(one.place, one.toFar, level);
            if (back == one.place) {
                return;
            }
            one.place = back;
            one.getWetter(WET_BY_GOING_BACK);
            retreats++;
            if (!isStone(back)) {
                one.restOnBank();
            }
            if (back == NEAR_BANK) {
                bag += one.mail;
                one.mail = 0;
            }
        }

        private void sendOn(Traveller one) {
            if (!one.out || one.stopped) {
                return;
            }
            one.place = placeAfterStep(one.kind(), one.place, one.toFar, level);
            if (one.place == (one.toFar ? FAR_BANK : NEAR_BANK)) {
                comeOver(one);
            }
        }

        private void comeOver(Traveller one) {
            one.restOnBank();
            one.toFar = !one.toFar;
            one.crossed++;
            crossings++;
            lettersDelivered += one.mail;
            one.mail = 0;
        }

        private void wetOrDry(Traveller one) {
            if (!isStone(one.place)) {
                return;
            }
            int state = stateOf(one.place, level);
            if (state == AWASH) {
                one.getWetter(WET_BY_AWASH);
            } else if (state == DRY) {
                one.getDrier(DRIED_BY_AIR);
            }
        }

        /** Both are chosen before either is dried, as the stove dries two at once. */
        private void heat(int bank) {
            int first = wettestOn(bank, NOBODY);
            int second = wettestOn(bank, first);
            if (first != NOBODY) {
                travellers[first].getDrier(DRIED_BY_STOVE);
            }
            if (second != NOBODY) {
                travellers[second].getDrier(DRIED_BY_STOVE);
            }
        }

        private int wettestOn(int bank, int butNot) {
            int wettest = NOBODY;
            int most = 0;
            for (int index = 0; index < count; index++) {
                Traveller one = travellers[index];
                if (index != butNot && one.place == bank && !one.out && one.wet > most) {
                    wettest = index;
                    most = one.wet;
                }
            }
            return wettest;
        }
    }

    /** What there was before the latest changes, in a ring that is filled again and again. */
    private static final class History {
        private final Ford[] before = new Ford[CHANGES_KEPT];
        private int next = 0;
        private int count = 0;

        History() {
            for (int index = 0; index < CHANGES_KEPT; index++) {
                before[index] = new Ford();
            }
        }

        void keep(Ford ford) {
            before[next].copyFrom(ford);
            next = next < CHANGES_KEPT - 1 ? next + 1 : 0;
            count = Math.min(CHANGES_KEPT, count + 1);
        }

        void takeBack(Ford ford) {
            next = next > 0 ? next - 1 : CHANGES_KEPT - 1;
            ford.copyFrom(before[next]);
            count--;
        }

        void forget() {
            count = 0;
        }
    }

    /** The words of questions: each compares a number of the traveller, with its own number or with one that follows. */
    private enum Word {
        IS_WALKER("walker", OF_KIND, WALKER),
        IS_CARRIER("carrier", OF_KIND, CARRIER),
        IS_DONKEY("donkey", OF_KIND, DONKEY),
        IS_NEAR("near", OF_REGION, ON_NEAR_BANK),
        IS_FAR("far", OF_REGION, ON_FAR_BANK),
        IS_ON_STONE("stone", OF_REGION, ON_STONE),
        IS_OUT("out", OF_OUT, 1),
        HAS_WET("wet", OF_WET, ANY_NUMBER),
        HAS_LOAD("load", OF_LOAD, ANY_NUMBER),
        HAS_CROSSED("crossed", OF_CROSSED, ANY_NUMBER);

        private final String spelling;
        private final int what;
        private final int number;

        Word(String spelling, int what, int number) {
            this.spelling = spelling;
            this.what = what;
            this.number = number;
        }
    }

    /** The input buffer, and how it is read: a set of travellers has bit k for the traveller k. */
    private static final class Question {
        private final char[] text = new char[MOST_CHARACTERS];
        private int length = 0;
        private int at = 0;
        private int fault = NO_ERROR;

        boolean isFull() {
            return length >= MOST_CHARACTERS;
        }

        int append(char character) {
            if (length < MOST_CHARACTERS) {
                text[length] = character;
                length++;
            }
            return length;
        }

        void empty() {
            length = 0;
        }

        /** After it, fault is where the question is malformed, or NO_ERROR. */
        int readFor(Ford ford) {
            at = 0;
            fault = NO_ERROR;
            int all = readQuestion(ford, 0);
            if (at < length) {
                fail(at);
            }
            return all;
        }

        private int readQuestion(Ford ford, int open) {
            int any = readPart(ford, open);
            for (int turn = 0; turn < MOST_CHARACTERS && takes('/'); turn++) {
                any |= readPart(ford, open);
            }
            return any;
        }

        private int readPart(Ford ford, int open) {
            int all = readOne(ford, open);
            for (int turn = 0; turn < MOST_CHARACTERS && takes('+'); turn++) {
                all &= readOne(ford, open);
            }
            return all;
        }

        private int readOne(Ford ford, int open) {
            if (open >= MOST_OPEN && (isNext('-') || isNext('['))) {
                fail(at);
                return 0;
            }
            if (takes('-')) {
                return everyone(ford) & ~readOne(ford, open + 1);
            }
            if (takes('[')) {
                int inside = readQuestion(ford, open + 1);
                if (!takes(']')) {
                    fail(at);
                }
                return inside;
            }
            Word word = readWord();
            if (word == null) {
                return 0;
            }
            if (word.number != ANY_NUMBER) {
                return thoseWith(ford, word.what, '=', word.number);
            }
            char sign = readSign();
            int number = readNumber();
            return thoseWith(ford, word.what, sign, number);
        }

        /** No word begins another one, so that the first one that stands there in whole is the word. */
        private Word readWord() {
            int longest = 0;
            for (int index = 0; index < WORDS.length; index++) {
                Word word = WORDS[index];
                int alike = lettersAlike(word.spelling);
                if (alike == word.spelling.length()) {
                    at += alike;
                    return word;
                }
                longest = Math.max(longest, alike);
            }
            fail(at + longest);
            return null;
        }

        private int lettersAlike(String spelling) {
            int most = Math.min(spelling.length(), length - at);
            for (int letter = 0; letter < most; letter++) {
                if (text[at + letter] != spelling.charAt(letter)) {
                    return letter;
                }
            }
            return Math.max(0, most);
        }

        private char readSign() {
            if (takes('<')) {
                return '<';
            }
            if (takes('>')) {
                return '>';
            }
            if (!takes('=')) {
                fail(at);
            }
            return '=';
        }

        private int readNumber() {
            if (!isDigitNext()) {
                fail(at);
                return 0;
            }
            int number = readDigit();
            return isDigitNext() ? number * 10 + readDigit() : number;
        }

        private boolean isDigitNext() {
            return fault == NO_ERROR && at < length && text[at] >= '0' && text[at] <= '9';
        }

        private int readDigit() {
            int digit = text[at] - '0';
            at++;
            return digit;
        }

        private boolean isNext(char character) {
            return fault == NO_ERROR && at < length && text[at] == character;
        }

        private boolean takes(char character) {
            boolean isThere = isNext(character);
            if (isThere) {
                at++;
            }
            return isThere;
        }

        /** What was read first tells where it went wrong: later faults only follow from it. */
        private void fail(int position) {
            if (fault == NO_ERROR) {
                fault = position;
            }
        }

        private static int everyone(Ford ford) {
            return (1 << ford.count) - 1;
        }

        private static int thoseWith(Ford ford, int what, char sign, int number) {
            int bits = 0;
            for (int index = 0; index < ford.count; index++) {
                if (isSo(ford.travellers[index].numberOf(what), sign, number)) {
                    bits |= 1 << index;
                }
            }
            return bits;
        }

        private static boolean isSo(int left, char sign, int right) {
            if (sign == '<') {
                return left < right;
            }
            return sign == '>' ? left > right : left == right;
        }
    }
}
