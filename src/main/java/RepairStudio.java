/**
 * A conservation studio of a library. The document DOC.md tells what each public method promises.
 *
 * <p>All that undo, snapshots and forecasts need is a whole copy of a {@link Studio}; the rows for
 * these copies are kept and used again, so that calls make next to no new objects.
 */
public final class RepairStudio {
    public static final int NONE = -1;
    public static final int FULL = -2;
    public static final int TEXT_ERROR = -3;
    public static final int REFUSED = -4;

    private static final int TIME_LIMIT = 20000;
    private static final int BENCH_LIMIT = 4;
    private static final int PRESS_LIMIT = 6;
    private static final int RECIPE_LIMIT = 10;
    private static final int OBJECT_LIMIT = 16;
    private static final int QUEUE_LIMIT = 8;
    private static final int RECORD_LIMIT = 100;
    private static final int RECORD_WIDTH = 6;
    private static final int UNDO_LIMIT = 10;
    private static final int SNAPSHOT_LIMIT = 2;
    private static final int COMMAND_LIMIT = 40;
    private static final int COMMAND_WIDTH = 5;
    private static final int INPUT_LIMIT = 1000;
    private static final int OUTPUT_LIMIT = 32;
    private static final int TICK_LIMIT = 1000;
    private static final int FORECAST_LIMIT = 500;
    private static final int BENCH_FORECAST_LIMIT = 200;
    private static final int LENGTH_LIMIT = 500;
    private static final int BEST_SCORE = 1000;
    private static final int LENT_LOSS = 20;
    private static final int FIRST_LIFE = 72;
    private static final int NO_LOAN_URGENCY = 30000;
    private static final int APPROVAL_FROM = 4;
    private static final int GREATEST_INT = 2147483647;

    private static final int ON_SHELF = 0;
    private static final int AT_BENCH = 1;
    private static final int WAITING = 2;
    private static final int CURING = 3;
    private static final int LENT = 4;

    private static final int STEP_RECORD = 0;
    private static final int WAIT_RECORD = 1;
    private static final int LOAN_RECORD = 2;

    private static final int CAN_BEGIN = 0;
    private static final int NOT_ON_SHELF = 1;
    private static final int EMPTY_QUEUE = 2;
    private static final int NO_PRESS = 3;
    private static final int NO_APPROVAL = 4;
    private static final int APPROVAL_ENDED = 5;
    private static final int NO_BENCH = 6;

    private static final int SYNTAX = 1;
    private static final int RANGE = 2;
    private static final int TWICE = 3;
    private static final int LIMIT = 4;

    private static final int BENCHES_WORD = 0;
    private static final int LIFE_WORD = 1;
    private static final int PRESS_WORD = 2;
    private static final int RECIPE_WORD = 3;
    private static final int OBJECT_WORD = 4;
    private static final int PLAN_WORD = 5;
    private static final int CANCEL_WORD = 6;
    private static final int APPROVE_WORD = 7;
    private static final int LEND_WORD = 8;
    private static final int RECALL_WORD = 9;
    private static final int TICK_WORD = 10;

    /** The least and the greatest value of each number behind a word, in their order. */
    private static final int[] BENCHES_RANGES = {1, 4};
    private static final int[] LIFE_RANGES = {1, 500};
    private static final int[] PRESS_RANGES = {1, 100};
    private static final int[] RECIPE_RANGES = {1, 40, 0, 200, 0, 1, 0, 3, 0, 500, 0, 100, 1, 100000000};
    private static final int[] OBJECT_RANGES = {1, 100, 0, 1000, 0, 3};
    private static final int[] PLAN_RANGES = {0, 15, 0, 9};
    private static final int[] OBJECT_NUMBER_RANGES = {0, 15};
    private static final int[] LEND_RANGES = {0, 15, 0, 20000, 0, 1000, 1, 500};
    private static final int[] TICK_RANGES = {1, 1000};

    private final Studio live;
    private final Studio scratch;
    private final History history;
    private final Studio[] snapshots;
    private final boolean[] saved;
    private final Reader reader;
    private final Routes routes;
    private final byte[] output;
    private int outputLength;

    public RepairStudio() {
        live = new Studio();
        scratch = new Studio();
        history = new History();
        snapshots = new Studio[SNAPSHOT_LIMIT];
        saved = new boolean[SNAPSHOT_LIMIT];
        reader = new Reader();
        routes = new Routes();
        output = new byte[OUTPUT_LIMIT];
        outputLength = 0;
    }

    // ---- input ----

    public int appendInput(int w0, int w1, int w2, int w3, int w4) {
        Tokens tokens = reader.tokens;
        if (!tokens.hasRoomFor(20)) {
            return NONE;
        }
        tokens.addWord(w0);
        tokens.addWord(w1);
        tokens.addWord(w2);
        tokens.addWord(w3);
        tokens.addWord(w4);
        return tokens.length;
    }

    public int truncateInput(int length) {
        Tokens tokens = reader.tokens;
        if (length < 0 || length > tokens.length) {
            return NONE;
        }
        tokens.length = length;
        return length;
    }

    public int load() {
        if (!reader.readStudio(scratch)) {
            return TEXT_ERROR;
        }
        live.copyFrom(scratch);
        history.forget();
        for (int place = 0; place < saved.length; place++) {
            saved[place] = false;
        }
        return live.itemCount;
    }

    public int errorCode() {
        return reader.errorCode;
    }

    public int errorPosition() {
        return reader.errorPosition;
    }

    // ---- what there is ----

    public int count(int what) {
        switch (what) {
            case 0: return live.benches;
            case 1: return live.pressCount;
            case 2: return live.recipeCount;
            case 3: return live.itemCount;
            case 4: return live.time;
            case 5: return live.life;
            case 6: return live.freeBenches();
            case 7: return live.freePresses();
            case 8: return live.book.kept;
            case 9: return live.stepsDone;
            case 10: return live.loansBegun;
            case 11: return live.hoursLate;
            case 12: return history.kept;
            default: return NONE;
        }
    }

    public int press(int press, int what) throws IndexOutOfBoundsException {
        requirePress(press);
        Press shown = live.pressAt(press);
        switch (what) {
            case 0: return shown.size;
            case 1: return shown.inside;
            default: return NONE;
        }
    }

    public int recipe(int recipe, int what) throws IndexOutOfBoundsException {
        requireRecipe(recipe);
        Recipe shown = live.recipeAt(recipe);
        switch (what) {
            case 0: return shown.work;
            case 1: return shown.cure;
            case 2: return shown.inPress;
            case 3: return shown.level;
            case 4: return shown.base;
            case 5: return shown.rate;
            case 6: return shown.wage;
            default: return NONE;
        }
    }

    public int object(int object, int what) throws IndexOutOfBoundsException {
        Item item = itemOf(object);
        switch (what) {
            case 0: return item.size;
            case 1: return item.score;
            case 2: return item.guard;
            case 3: return item.state;
            case 4: return item.rest;
            case 5: return item.queueLength;
            case 6: return item.approvalEnd;
            case 7: return item.recipe;
            case 8: return item.press;
            case 9: return item.stepsDone;
            case 10: return item.urgency();
            default: return NONE;
        }
    }

    public int queued(int object, int place) throws IndexOutOfBoundsException {
        return itemOf(object).queuedAt(place);
    }

    public int loan(int object, int what) throws IndexOutOfBoundsException {
        Item item = itemOf(object);
        if (!item.loanWaits) {
            return NONE;
        }
        switch (what) {
            case 0: return item.due;
            case 1: return item.minimum;
            case 2: return item.loanLength;
            default: return NONE;
        }
    }

    // ---- what can be done ----

    public int plan(int object, int recipe) throws IndexOutOfBoundsException {
        Item item = itemOf(object);
        requireRecipe(recipe);
        if (item.queueLength >= QUEUE_LIMIT) {
            return FULL;
        }
        history.remember(live);
        item.enqueue(recipe);
        return item.queueLength;
    }

    public int cancel(int object) throws IndexOutOfBoundsException {
        Item item = itemOf(object);
        if (item.queueLength == 0) {
            return REFUSED;
        }
        history.remember(live);
        return item.dropLast();
    }

    public int clearQueue(int object) throws IndexOutOfBoundsException {
        Item item = itemOf(object);
        int length = item.queueLength;
        if (length == 0) {
            return REFUSED;
        }
        history.remember(live);
        item.queueLength = 0;
        item.approvalEnd = NONE;
        return length;
    }

    public int exchange(int object, int place, int other) throws IndexOutOfBoundsException {
        Item item = itemOf(object);
        if (place == other || !item.hasPlace(place) || !item.hasPlace(other)) {
            return REFUSED;
        }
        history.remember(live);
        item.swap(place, other);
        return item.queuedAt(place);
    }

    public int approve(int object) throws IndexOutOfBoundsException {
        Item item = itemOf(object);
        if (item.queueLength == 0 || !live.recipeAt(item.firstQueued()).asksApproval(item.guard)) {
            return REFUSED;
        }
        history.remember(live);
        item.approvalEnd = live.time + live.life;
        return item.approvalEnd;
    }

    public int lend(int object, int due, int minimum, int length)
            throws IndexOutOfBoundsException, IllegalArgumentException {
        Item item = itemOf(object);
        requireBetween(due, 0, TIME_LIMIT);
        requireBetween(minimum, 0, BEST_SCORE);
        requireBetween(length, 1, LENGTH_LIMIT);
        if (item.loanWaits) {
            return REFUSED;
        }
        history.remember(live);
        item.awaitLoan(due, minimum, length);
        return item.urgency();
    }

    public int recall(int object) throws IndexOutOfBoundsException {
        Item item = itemOf(object);
        if (!item.loanWaits) {
            return REFUSED;
        }
        history.remember(live);
        item.loanWaits = false;
        return item.due;
    }

    public int tick(int hours) throws IllegalArgumentException {
        requireBetween(hours, 1, TICK_LIMIT);
        if (live.time + hours > TIME_LIMIT) {
            return FULL;
        }
        history.remember(live);
        live.passHours(hours);
        return live.time;
    }

    // ---- reasons ----

    public int reason(int object) throws IndexOutOfBoundsException {
        return live.reasonOf(itemOf(object));
    }

    public int cause(int object) throws IndexOutOfBoundsException {
        Item item = itemOf(object);
        switch (live.reasonOf(item)) {
            case NOT_ON_SHELF: return item.state;
            case NO_PRESS: return live.greatestPress();
            case APPROVAL_ENDED: return item.approvalEnd;
            default: return NONE;
        }
    }

    public int objectsWith(int reason) throws IllegalArgumentException {
        requireBetween(reason, CAN_BEGIN, NO_BENCH);
        int set = 0;
        for (int number = 0; number < live.itemCount; number++) {
            if (live.reasonOf(live.itemAt(number)) == reason) {
                set |= 1 << number;
            }
        }
        return set;
    }

    public int next() {
        return live.firstToBegin();
    }

    public boolean needsApproval(int object, int recipe) throws IndexOutOfBoundsException {
        Item item = itemOf(object);
        requireRecipe(recipe);
        return live.recipeAt(recipe).asksApproval(item.guard);
    }

    public int approvalsAhead(int object) throws IndexOutOfBoundsException {
        Item item = itemOf(object);
        int sum = 0;
        for (int place = 0; place < item.queueLength; place++) {
            if (live.recipeAt(item.queuedAt(place)).asksApproval(item.guard)) {
                sum++;
            }
        }
        return sum;
    }

    public int pressFor(int object) throws IndexOutOfBoundsException {
        return live.fittingPress(itemOf(object).size, false);
    }

    // ---- what recipes would do ----

    public int scoreAfter(int object, int recipe) throws IndexOutOfBoundsException {
        Item item = itemOf(object);
        requireRecipe(recipe);
        return live.recipeAt(recipe).scoreBehind(item.score);
    }

    public int scoreAhead(int object) throws IndexOutOfBoundsException {
        Item item = itemOf(object);
        int score = item.score;
        for (int place = 0; place < item.queueLength; place++) {
            score = live.recipeAt(item.queuedAt(place)).scoreBehind(score);
        }
        return score;
    }

    public int bestRecipe(int object) throws IndexOutOfBoundsException {
        int score = itemOf(object).score;
        int best = NONE;
        int bestGain = 0;
        int bestHours = 1;
        for (int number = 0; number < live.recipeCount; number++) {
            Recipe recipe = live.recipeAt(number);
            int gain = recipe.scoreBehind(score) - score;
            // a/b > c/d as a*d > c*b: both divisors are positive, and the products stay small
            if (gain * bestHours > bestGain * recipe.hours()) {
                best = number;
                bestGain = gain;
                bestHours = recipe.hours();
            }
        }
        return best;
    }

    public int stepsTo(int object, int recipe, int target)
            throws IndexOutOfBoundsException, IllegalArgumentException {
        Item item = itemOf(object);
        requireRecipe(recipe);
        requireBetween(target, 0, BEST_SCORE);
        return live.recipeAt(recipe).stepsBetween(item.score, target);
    }

    public int quickestTo(int object, int target)
            throws IndexOutOfBoundsException, IllegalArgumentException {
        Item item = itemOf(object);
        requireBetween(target, 0, BEST_SCORE);
        return (int) routes.leastBetween(live, item.score, target, false);
    }

    public long cheapestTo(int object, int target)
            throws IndexOutOfBoundsException, IllegalArgumentException {
        Item item = itemOf(object);
        requireBetween(target, 0, BEST_SCORE);
        return routes.leastBetween(live, item.score, target, true);
    }

    public int hoursAhead(int object) throws IndexOutOfBoundsException {
        Item item = itemOf(object);
        int sum = 0;
        for (int place = 0; place < item.queueLength; place++) {
            sum += live.recipeAt(item.queuedAt(place)).hours();
        }
        return sum;
    }

    // ---- bills ----

    public int bill(int object) throws IndexOutOfBoundsException, ArithmeticException {
        return exactInt(itemOf(object).owed);
    }

    public int allBills() throws ArithmeticException {
        long sum = 0;
        for (int number = 0; number < live.itemCount; number++) {
            sum += live.itemAt(number).owed;
        }
        return exactInt(sum);
    }

    public int billAhead(int object) throws IndexOutOfBoundsException, ArithmeticException {
        Item item = itemOf(object);
        long sum = item.owed;
        for (int place = 0; place < item.queueLength; place++) {
            sum += live.recipeAt(item.queuedAt(place)).price();
        }
        return exactInt(sum);
    }

    // ---- records ----

    public int record(int index, int what) throws IndexOutOfBoundsException {
        requireIndex(index, live.book.kept);
        return live.book.cell(index, what);
    }

    public int recordsOf(int object, int kind) throws IndexOutOfBoundsException, IllegalArgumentException {
        requireObject(object);
        requireBetween(kind, STEP_RECORD, LOAN_RECORD);
        int sum = 0;
        for (int index = 0; index < live.book.kept; index++) {
            if (live.book.isOf(index, object) && live.book.kindOf(index) == kind) {
                sum++;
            }
        }
        return sum;
    }

    public int latestRecord(int object) throws IndexOutOfBoundsException {
        requireObject(object);
        for (int index = live.book.kept - 1; index >= 0; index--) {
            if (live.book.isOf(index, object)) {
                return index;
            }
        }
        return NONE;
    }

    public int lost(int object) throws IndexOutOfBoundsException {
        requireObject(object);
        int sum = 0;
        for (int index = 0; index < live.book.kept; index++) {
            if (live.book.isOf(index, object) && live.book.kindOf(index) == WAIT_RECORD) {
                sum -= live.book.changeOf(index);
            }
        }
        return sum;
    }

    public int recorded(int object) throws IndexOutOfBoundsException {
        requireObject(object);
        int sum = 0;
        for (int index = 0; index < live.book.kept; index++) {
            if (live.book.isOf(index, object)) {
                sum += live.book.changeOf(index);
            }
        }
        return sum;
    }

    // ---- forecasts ----

    public int readyAt(int object, int hours) throws IndexOutOfBoundsException, IllegalArgumentException {
        requireObject(object);
        requireBetween(hours, 1, FORECAST_LIMIT);
        Studio ahead = startForecast();
        Item item = ahead.itemAt(object);
        for (int hour = 0; hour <= hours; hour++) {
            if (item.state == ON_SHELF && item.queueLength == 0) {
                return ahead.time;
            }
            if (ahead.time >= TIME_LIMIT) {
                return NONE;
            }
            ahead.passHours(1);
        }
        return NONE;
    }

    public int scoreIn(int object, int hours) throws IndexOutOfBoundsException, IllegalArgumentException {
        requireObject(object);
        requireBetween(hours, 1, FORECAST_LIMIT);
        Studio ahead = startForecast();
        ahead.passHours(hours);
        return ahead.itemAt(object).score;
    }

    public int lentIn(int hours) throws IllegalArgumentException {
        requireBetween(hours, 1, FORECAST_LIMIT);
        Studio ahead = startForecast();
        ahead.passHours(hours);
        return ahead.itemsIn(LENT);
    }

    public int bestBenches(int hours) throws IllegalArgumentException {
        requireBetween(hours, 1, BENCH_FORECAST_LIMIT);
        int best = 1;
        int mostSteps = NONE;
        for (int benches = 1; benches <= BENCH_LIMIT; benches++) {
            Studio ahead = startForecast();
            ahead.benches = benches;
            ahead.passHours(hours);
            if (ahead.stepsDone > mostSteps) {
                best = benches;
                mostSteps = ahead.stepsDone;
            }
        }
        return best;
    }

    public int quietAt(int hours) throws IllegalArgumentException {
        requireBetween(hours, 1, FORECAST_LIMIT);
        Studio ahead = startForecast();
        for (int hour = 0; hour <= hours; hour++) {
            if (ahead.isQuiet()) {
                return ahead.time;
            }
            if (ahead.time >= TIME_LIMIT) {
                return NONE;
            }
            ahead.passHours(1);
        }
        return NONE;
    }

    // ---- loans that wait ----

    public int lateness(int object) throws IndexOutOfBoundsException {
        Item item = itemOf(object);
        return item.loanWaits ? Math.max(0, live.time - item.due) : NONE;
    }

    public int mostUrgent() {
        return waitingLoan(0);
    }

    public int waitingLoan(int k) {
        for (int number = 0; number < live.itemCount; number++) {
            if (live.itemAt(number).loanWaits && live.loansAheadOf(number) == k) {
                return number;
            }
        }
        return NONE;
    }

    // ---- counts and sets ----

    public int uses(int recipe) throws IndexOutOfBoundsException {
        requireRecipe(recipe);
        return live.recipeAt(recipe).stepsDone;
    }

    public int pressUse(int press) throws IndexOutOfBoundsException {
        requirePress(press);
        return live.pressAt(press).timesFilled;
    }

    public int inQueues(int recipe) throws IndexOutOfBoundsException {
        requireRecipe(recipe);
        int sum = 0;
        for (int number = 0; number < live.itemCount; number++) {
            sum += live.itemAt(number).timesQueued(recipe);
        }
        return sum;
    }

    public int dryIn(int press) throws IndexOutOfBoundsException {
        requirePress(press);
        int inside = live.pressAt(press).inside;
        return inside == NONE ? 0 : live.itemAt(inside).rest;
    }

    public int rank(int object) throws IndexOutOfBoundsException {
        return Integer.bitCount(live.itemsBelow(itemOf(object).score));
    }

    public int below(int bound) {
        return live.itemsBelow(bound);
    }

    public int objectsIn(int state) throws IllegalArgumentException {
        requireBetween(state, ON_SHELF, LENT);
        return live.itemsIn(state);
    }

    public double meanScore() throws ArithmeticException {
        requireItems();
        int sum = 0;
        for (int number = 0; number < live.itemCount; number++) {
            sum += live.itemAt(number).score;
        }
        int divisor = live.itemCount;
        return divisor == 0 ? 0.0 : (double) sum / (double) divisor;
    }

    // ---- output ----

    public int write(int object) throws IndexOutOfBoundsException {
        Item item = itemOf(object);
        outputLength = 0;
        for (int place = 0; place < item.queueLength; place++) {
            int recipe = item.queuedAt(place);
            if (place > 0) {
                put(',');
            }
            put('0' + recipe);
            if (live.recipeAt(recipe).asksApproval(item.guard)) {
                put('!');
            }
        }
        return outputLength;
    }

    public int outputByte(int index) {
        return index >= 0 && index < outputLength && index < output.length ? output[index] : NONE;
    }

    // ---- scripts, steps back, snapshots ----

    public int play() {
        if (!reader.readScript()) {
            return TEXT_ERROR;
        }
        for (int command = 0; command < reader.commandCount; command++) {
            if (perform(command) < 0) {
                return command;
            }
        }
        return reader.commandCount;
    }

    public int undo() {
        return history.stepBack(live) ? history.kept : NONE;
    }

    public int digest() {
        int digest = 31 + live.time;
        for (int number = 0; number < live.itemCount; number++) {
            Item item = live.itemAt(number);
            digest = 31 * digest + item.score;
            digest = 31 * digest + item.state;
            digest = 31 * digest + item.rest;
        }
        return digest;
    }

    public boolean saveSnapshot(int place) {
        if (place < 0 || place >= saved.length) {
            return false;
        }
        rowAt(snapshots, place).copyFrom(live);
        saved[place] = true;
        return true;
    }

    public boolean restoreSnapshot(int place) {
        if (place < 0 || place >= saved.length || !saved[place]) {
            return false;
        }
        live.copyFrom(rowAt(snapshots, place));
        history.forget();
        return true;
    }

    // ---- helpers of the face ----

    private Item itemOf(int object) {
        requireObject(object);
        return live.itemAt(object);
    }

    private void requireObject(int object) {
        requireIndex(object, live.itemCount);
    }

    private void requireRecipe(int recipe) {
        requireIndex(recipe, live.recipeCount);
    }

    private void requirePress(int press) {
        requireIndex(press, live.pressCount);
    }

    private void requireItems() {
        if (live.itemCount == 0) {
            throw new ArithmeticException("there are no objects");
        }
    }

    private static void requireIndex(int index, int length) {
        if (index < 0 || index >= length) {
            throw new IndexOutOfBoundsException("there is no such thing");
        }
    }

    private static void requireBetween(int value, int least, int greatest) {
        if (value < least || value > greatest) {
            throw new IllegalArgumentException("out of range");
        }
    }

    private static int exactInt(long amount) {
        if (amount > GREATEST_INT) {
            throw new ArithmeticException("too great for an int");
        }
        return (int) amount;
    }

    private Studio startForecast() {
        scratch.copyFrom(live);
        return scratch;
    }

    private void put(int sign) {
        if (outputLength >= 0 && outputLength < output.length) {
            output[outputLength] = (byte) sign;
            outputLength++;
        }
    }

    /** Does a command of a script; the answer is negative if it failed. */
    private int perform(int command) {
        int word = reader.commandPart(command, 0);
        int first = reader.commandPart(command, 1);
        int second = reader.commandPart(command, 2);
        if (word == TICK_WORD) {
            return tick(first);
        }
        // A script may name things that are not there; the methods would throw for them.
        if (first >= live.itemCount || (word == PLAN_WORD && second >= live.recipeCount)) {
            return REFUSED;
        }
        switch (word) {
            case PLAN_WORD: return plan(first, second);
            case CANCEL_WORD: return cancel(first);
            case APPROVE_WORD: return approve(first);
            case LEND_WORD:
                return lend(first, second, reader.commandPart(command, 3), reader.commandPart(command, 4));
            case RECALL_WORD: return recall(first);
            default: return REFUSED;
        }
    }

    /** Rows are made when they are first needed: few runs use all of them. */
    private static Studio rowAt(Studio[] rows, int place) {
        if (place < 0 || place >= rows.length) {
            return new Studio();
        }
        Studio row = rows[place];
        if (row == null) {
            row = new Studio();
            rows[place] = row;
        }
        return row;
    }

    // ---- the things ----

    private static final class Press {
        int size;
        int inside;
        int timesFilled;

        void clear(int newSize) {
            size = newSize;
            inside = NONE;
            timesFilled = 0;
        }

        void copyFrom(Press other) {
            size = other.size;
            inside = other.inside;
            timesFilled = other.timesFilled;
        }
    }

    private static final class Recipe {
        int work;
        int cure;
        int inPress;
        int level;
        int base;
        int rate;
        int wage;
        int stepsDone;

        void copyFrom(Recipe other) {
            work = other.work;
            cure = other.cure;
            inPress = other.inPress;
            level = other.level;
            base = other.base;
            rate = other.rate;
            wage = other.wage;
            stepsDone = other.stepsDone;
        }

        boolean asksApproval(int guard) {
            return level + guard >= APPROVAL_FROM;
        }

        int hours() {
            return work + cure;
        }

        long price() {
            return (long) work * wage;
        }

        int scoreBehind(int score) {
            return Math.min(BEST_SCORE, score + base + rate * (BEST_SCORE - score) / 100);
        }

        int stepsBetween(int from, int target) {
            int score = from;
            for (int steps = 0; steps <= BEST_SCORE; steps++) {
                if (score >= target) {
                    return steps;
                }
                int behind = scoreBehind(score);
                if (behind <= score) {
                    return NONE;
                }
                score = behind;
            }
            return NONE;
        }
    }

    /** An object of the library, with its queue, its approval and its loan that waits. */
    private static final class Item {
        final int number;
        final int[] queue;
        int size;
        int score;
        int guard;
        int state;
        int rest;
        int queueLength;
        int approvalEnd;
        int recipe;
        int press;
        int waitingSince;
        int scoreAtWait;
        int stepsDone;
        long owed;
        boolean loanWaits;
        int due;
        int minimum;
        int loanLength;

        Item(int itsNumber) {
            number = itsNumber;
            queue = new int[QUEUE_LIMIT];
        }

        void clear(int newSize, int newScore, int newGuard) {
            size = newSize;
            score = newScore;
            guard = newGuard;
            queueLength = 0;
            approvalEnd = NONE;
            waitingSince = 0;
            scoreAtWait = 0;
            stepsDone = 0;
            owed = 0;
            loanWaits = false;
            due = 0;
            minimum = 0;
            loanLength = 0;
            layOnShelf();
        }

        void copyFrom(Item other) {
            size = other.size;
            score = other.score;
            guard = other.guard;
            state = other.state;
            rest = other.rest;
            queueLength = other.queueLength;
            approvalEnd = other.approvalEnd;
            recipe = other.recipe;
            press = other.press;
            waitingSince = other.waitingSince;
            scoreAtWait = other.scoreAtWait;
            stepsDone = other.stepsDone;
            owed = other.owed;
            loanWaits = other.loanWaits;
            due = other.due;
            minimum = other.minimum;
            loanLength = other.loanLength;
            System.arraycopy(other.queue, 0, queue, 0, Math.min(queue.length, other.queue.length));
        }

        boolean hasPlace(int place) {
            return place >= 0 && place < queueLength && place < queue.length;
        }

        int queuedAt(int place) {
            return hasPlace(place) ? queue[place] : NONE;
        }

        int firstQueued() {
            return queueLength > 0 && queue.length > 0 ? queue[0] : NONE;
        }

        void enqueue(int newRecipe) {
            if (queueLength >= 0 && queueLength < queue.length) {
                queue[queueLength] = newRecipe;
                queueLength++;
            }
        }

        int dropLast() {
            int last = queuedAt(queueLength - 1);
            if (queueLength > 0) {
                queueLength--;
            }
            if (queueLength == 0) {
                approvalEnd = NONE;
            }
            return last;
        }

        int dropFirst() {
            int first = firstQueued();
            for (int place = 0; place + 1 < queueLength && place + 1 < queue.length; place++) {
                queue[place] = queue[place + 1];
            }
            if (queueLength > 0) {
                queueLength--;
            }
            approvalEnd = NONE;
            return first;
        }

        void swap(int place, int other) {
            if (hasPlace(place) && hasPlace(other)) {
                int kept = queue[place];
                queue[place] = queue[other];
                queue[other] = kept;
                if (place == 0 || other == 0) {
                    approvalEnd = NONE;
                }
            }
        }

        int timesQueued(int counted) {
            int sum = 0;
            for (int place = 0; place < queueLength; place++) {
                if (queuedAt(place) == counted) {
                    sum++;
                }
            }
            return sum;
        }

        int urgency() {
            return loanWaits ? due : NO_LOAN_URGENCY;
        }

        void awaitLoan(int newDue, int newMinimum, int newLength) {
            loanWaits = true;
            due = newDue;
            minimum = newMinimum;
            loanLength = newLength;
        }

        boolean canBeLent(int time) {
            return state == ON_SHELF && queueLength == 0 && loanWaits && due <= time && score >= minimum;
        }

        void layOnShelf() {
            state = ON_SHELF;
            rest = 0;
            recipe = NONE;
            press = NONE;
        }

        void waitForPress(int time) {
            state = WAITING;
            rest = 0;
            waitingSince = time;
            scoreAtWait = score;
        }

        void startCuring(int hours) {
            state = CURING;
            rest = hours;
        }

        /** Orders the objects that wait for a press: by the hours they began, then by numbers. */
        int waitingKey() {
            return waitingSince * OBJECT_LIMIT + number;
        }
    }

    /** The latest records, in a ring. */
    private static final class Book {
        final int[] cells;
        int first;
        int kept;

        Book() {
            cells = new int[RECORD_LIMIT * RECORD_WIDTH];
        }

        void clear() {
            first = 0;
            kept = 0;
        }

        void copyFrom(Book other) {
            first = other.first;
            kept = other.kept;
            System.arraycopy(other.cells, 0, cells, 0, Math.min(cells.length, other.cells.length));
        }

        void add(int object, int kind, int recipe, int time, int ahead, int behind) {
            int at = (first + kept) % RECORD_LIMIT * RECORD_WIDTH;
            if (kept < RECORD_LIMIT) {
                kept++;
            } else {
                first = (first + 1) % RECORD_LIMIT;
            }
            if (at >= 0 && at + 5 < cells.length) {
                cells[at] = object;
                cells[at + 1] = kind;
                cells[at + 2] = recipe;
                cells[at + 3] = time;
                cells[at + 4] = ahead;
                cells[at + 5] = behind;
            }
        }

        int cell(int index, int what) {
            if (index < 0 || index >= kept || what < 0 || what >= RECORD_WIDTH) {
                return NONE;
            }
            int at = (first + index) % RECORD_LIMIT * RECORD_WIDTH + what;
            return at >= 0 && at < cells.length ? cells[at] : NONE;
        }

        boolean isOf(int index, int object) {
            return cell(index, 0) == object;
        }

        int kindOf(int index) {
            return cell(index, 1);
        }

        int changeOf(int index) {
            return cell(index, 5) - cell(index, 4);
        }
    }

    // ---- the studio ----

    /** All that undo and snapshots bring back, and how an hour changes it. */
    private static final class Studio {
        final Press[] presses;
        final Recipe[] recipes;
        final Item[] items;
        final Press sparePress;
        final Recipe spareRecipe;
        final Item spareItem;
        final Book book;
        int pressCount;
        int recipeCount;
        int itemCount;
        int benches;
        int life;
        int time;
        int stepsDone;
        int loansBegun;
        int hoursLate;

        Studio() {
            presses = new Press[PRESS_LIMIT];
            for (int number = 0; number < presses.length; number++) {
                presses[number] = new Press();
            }
            recipes = new Recipe[RECIPE_LIMIT];
            for (int number = 0; number < recipes.length; number++) {
                recipes[number] = new Recipe();
            }
            items = new Item[OBJECT_LIMIT];
            for (int number = 0; number < items.length; number++) {
                items[number] = new Item(number);
            }
            sparePress = new Press();
            spareRecipe = new Recipe();
            spareItem = new Item(NONE);
            book = new Book();
            benches = 1;
            life = FIRST_LIFE;
        }

        void clear() {
            pressCount = 0;
            recipeCount = 0;
            itemCount = 0;
            benches = 1;
            life = FIRST_LIFE;
            time = 0;
            stepsDone = 0;
            loansBegun = 0;
            hoursLate = 0;
            book.clear();
        }

        void copyFrom(Studio other) {
            pressCount = other.pressCount;
            recipeCount = other.recipeCount;
            itemCount = other.itemCount;
            benches = other.benches;
            life = other.life;
            time = other.time;
            stepsDone = other.stepsDone;
            loansBegun = other.loansBegun;
            hoursLate = other.hoursLate;
            book.copyFrom(other.book);
            for (int number = 0; number < pressCount; number++) {
                pressAt(number).copyFrom(other.pressAt(number));
            }
            for (int number = 0; number < recipeCount; number++) {
                recipeAt(number).copyFrom(other.recipeAt(number));
            }
            for (int number = 0; number < itemCount; number++) {
                itemAt(number).copyFrom(other.itemAt(number));
            }
        }

        // The callers know that the number is good; the spare thing keeps the machine from throwing on a bad one.

        Press pressAt(int number) {
            return number >= 0 && number < presses.length ? presses[number] : sparePress;
        }

        Recipe recipeAt(int number) {
            return number >= 0 && number < recipes.length ? recipes[number] : spareRecipe;
        }

        Item itemAt(int number) {
            return number >= 0 && number < items.length ? items[number] : spareItem;
        }

        void addPress(int size) {
            pressAt(pressCount).clear(size);
            pressCount++;
        }

        Recipe addRecipe() {
            Recipe added = recipeAt(recipeCount);
            added.stepsDone = 0;
            recipeCount++;
            return added;
        }

        void addItem(int size, int score, int guard) {
            itemAt(itemCount).clear(size, score, guard);
            itemCount++;
        }

        // -- an hour --

        void passHours(int hours) {
            for (int hour = 0; hour < hours && time < TIME_LIMIT; hour++) {
                for (int number = 0; number < itemCount; number++) {
                    goOn(itemAt(number));
                }
                fillPresses();
                startLoans();
                startSteps();
                time++;
            }
        }

        private void goOn(Item item) {
            switch (item.state) {
                case AT_BENCH:
                    item.rest--;
                    if (item.rest == 0) {
                        finishStep(item);
                    }
                    break;
                case WAITING:
                    item.score = Math.max(0, item.score - 1);
                    break;
                case CURING:
                    item.rest--;
                    if (item.rest == 0) {
                        finishCuring(item);
                    }
                    break;
                case LENT:
                    item.rest--;
                    if (item.rest == 0) {
                        finishLoan(item);
                    }
                    break;
                default:
                    break;
            }
        }

        private void finishStep(Item item) {
            Recipe recipe = recipeAt(item.recipe);
            int ahead = item.score;
            item.score = recipe.scoreBehind(ahead);
            book.add(item.number, STEP_RECORD, item.recipe, time, ahead, item.score);
            item.owed += recipe.price();
            item.stepsDone++;
            recipe.stepsDone++;
            stepsDone++;
            if (recipe.cure == 0) {
                item.layOnShelf();
            } else if (recipe.inPress == 1) {
                item.waitForPress(time);
            } else {
                item.startCuring(recipe.cure);
            }
        }

        private void finishCuring(Item item) {
            if (item.press != NONE) {
                pressAt(item.press).inside = NONE;
            }
            item.layOnShelf();
        }

        private void finishLoan(Item item) {
            int ahead = item.score;
            item.score = Math.max(0, ahead - LENT_LOSS);
            book.add(item.number, LOAN_RECORD, NONE, time, ahead, item.score);
            item.layOnShelf();
        }

        private void fillPresses() {
            int key = NONE;
            for (int turn = 0; turn < itemCount; turn++) {
                Item item = nextWaiting(key);
                if (item == null) {
                    return;
                }
                key = item.waitingKey();
                int press = fittingPress(item.size, true);
                if (press != NONE) {
                    enterPress(item, press);
                }
            }
        }

        /** The first object in the order of those that wait, behind the one with the given key. */
        private Item nextWaiting(int key) {
            Item found = null;
            for (int number = 0; number < itemCount; number++) {
                Item item = itemAt(number);
                if (item.state == WAITING && item.waitingKey() > key
                        && (found == null || item.waitingKey() < found.waitingKey())) {
                    found = item;
                }
            }
            return found;
        }

        private void enterPress(Item item, int number) {
            Press press = pressAt(number);
            press.inside = item.number;
            press.timesFilled++;
            item.press = number;
            item.startCuring(recipeAt(item.recipe).cure);
            book.add(item.number, WAIT_RECORD, item.recipe, time, item.scoreAtWait, item.score);
        }

        private void startLoans() {
            for (int number = 0; number < itemCount; number++) {
                Item item = itemAt(number);
                if (item.canBeLent(time)) {
                    item.state = LENT;
                    item.rest = item.loanLength;
                    item.loanWaits = false;
                    loansBegun++;
                    hoursLate += time - item.due;
                }
            }
        }

        private void startSteps() {
            int free = freeBenches();
            for (int turn = 0; turn < free; turn++) {
                int number = firstToBegin();
                if (number == NONE) {
                    return;
                }
                startStep(itemAt(number));
            }
        }

        private void startStep(Item item) {
            item.recipe = item.dropFirst();
            item.state = AT_BENCH;
            item.rest = recipeAt(item.recipe).work;
        }

        // -- what is so now --

        int reasonOf(Item item) {
            if (item.state != ON_SHELF) {
                return NOT_ON_SHELF;
            }
            if (item.queueLength == 0) {
                return EMPTY_QUEUE;
            }
            Recipe recipe = recipeAt(item.firstQueued());
            if (recipe.inPress == 1 && greatestPress() < item.size) {
                return NO_PRESS;
            }
            if (recipe.asksApproval(item.guard)) {
                if (item.approvalEnd == NONE) {
                    return NO_APPROVAL;
                }
                if (item.approvalEnd <= time) {
                    return APPROVAL_ENDED;
                }
            }
            return freeBenches() > 0 ? CAN_BEGIN : NO_BENCH;
        }

        int firstToBegin() {
            int first = NONE;
            int least = NO_LOAN_URGENCY + 1;
            for (int number = 0; number < itemCount; number++) {
                Item item = itemAt(number);
                if (item.urgency() < least && reasonOf(item) == CAN_BEGIN) {
                    first = number;
                    least = item.urgency();
                }
            }
            return first;
        }

        /** The least press that takes a size, of several the lowest one; NONE if there is none. */
        int fittingPress(int size, boolean onlyFree) {
            int best = NONE;
            int bestSize = 0;
            for (int number = 0; number < pressCount; number++) {
                Press press = pressAt(number);
                if (press.size >= size && (press.inside == NONE || !onlyFree)
                        && (best == NONE || press.size < bestSize)) {
                    best = number;
                    bestSize = press.size;
                }
            }
            return best;
        }

        int greatestPress() {
            int greatest = 0;
            for (int number = 0; number < pressCount && number < presses.length; number++) {
                if (presses[number].size > greatest) {
                    greatest = presses[number].size;
                }
            }
            return greatest;
        }

        int freePresses() {
            int free = 0;
            for (int number = 0; number < pressCount; number++) {
                if (pressAt(number).inside == NONE) {
                    free++;
                }
            }
            return free;
        }

        int freeBenches() {
            int free = benches;
            for (int number = 0; number < itemCount && number < items.length; number++) {
                if (items[number].state == AT_BENCH) {
                    free--;
                }
            }
            return free;
        }

        int itemsIn(int state) {
            int set = 0;
            for (int number = 0; number < itemCount; number++) {
                if (itemAt(number).state == state) {
                    set |= 1 << number;
                }
            }
            return set;
        }

        int itemsBelow(int bound) {
            int set = 0;
            for (int number = 0; number < itemCount; number++) {
                if (itemAt(number).score < bound) {
                    set |= 1 << number;
                }
            }
            return set;
        }

        boolean isQuiet() {
            return itemsIn(AT_BENCH) == 0 && itemsIn(WAITING) == 0 && itemsIn(CURING) == 0
                    && firstToBegin() == NONE;
        }

        int loansAheadOf(int number) {
            int due = itemAt(number).due;
            int sum = 0;
            for (int other = 0; other < itemCount; other++) {
                Item item = itemAt(other);
                if (item.loanWaits && (item.due < due || (item.due == due && other < number))) {
                    sum++;
                }
            }
            return sum;
        }
    }

    /** The latest states that can be brought back, in a ring. */
    private static final class History {
        final Studio[] rows;
        int end;
        int kept;

        History() {
            rows = new Studio[UNDO_LIMIT];
        }

        void remember(Studio studio) {
            rowAt(rows, end).copyFrom(studio);
            end = (end + 1) % UNDO_LIMIT;
            kept = Math.min(kept + 1, UNDO_LIMIT);
        }

        boolean stepBack(Studio studio) {
            if (kept == 0) {
                return false;
            }
            end = (end + UNDO_LIMIT - 1) % UNDO_LIMIT;
            kept--;
            studio.copyFrom(rowAt(rows, end));
            return true;
        }

        void forget() {
            kept = 0;
        }
    }

    /** Finds the least hours or money for a row of steps between two scores. */
    private static final class Routes {
        final long[] least;

        Routes() {
            least = new long[BEST_SCORE + 1];
        }

        long leastBetween(Studio studio, int from, int target, boolean inMoney) {
            long found = 0;
            // No step makes a score less: what is behind a step is known when the greater scores are.
            for (int score = target - 1; score >= from; score--) {
                found = leastFrom(studio, score, target, inMoney);
                if (score >= 0 && score < least.length) {
                    least[score] = found;
                }
            }
            return found;
        }

        private long leastFrom(Studio studio, int score, int target, boolean inMoney) {
            long best = NONE;
            for (int number = 0; number < studio.recipeCount; number++) {
                Recipe recipe = studio.recipeAt(number);
                int behind = recipe.scoreBehind(score);
                long further = behind > score ? leastBehind(behind, target) : NONE;
                if (further != NONE) {
                    long sum = further + (inMoney ? recipe.price() : recipe.hours());
                    if (best == NONE || sum < best) {
                        best = sum;
                    }
                }
            }
            return best;
        }

        private long leastBehind(int score, int target) {
            if (score >= target) {
                return 0;
            }
            return score >= 0 && score < least.length ? least[score] : NONE;
        }
    }

    // ---- the input ----

    /** The input buffer, and its tokens one by one. */
    private static final class Tokens {
        static final int END = 0;
        static final int WORD = 1;
        static final int NUMBER = 2;
        static final int SEMICOLON = 3;
        static final int BAD = 4;
        static final int MOST_LETTERS = 8;
        static final int MOST_DIGITS = 9;

        final byte[] text;
        int length;
        int kind;
        int start;
        int end;
        int value;

        Tokens() {
            text = new byte[INPUT_LIMIT];
        }

        boolean hasRoomFor(int bytes) {
            return length + bytes <= INPUT_LIMIT;
        }

        void addWord(int word) {
            addByte(word >> 24);
            addByte(word >> 16);
            addByte(word >> 8);
            addByte(word);
        }

        private void addByte(int sign) {
            if (length >= 0 && length < text.length) {
                text[length] = (byte) sign;
                length++;
            }
        }

        void rewind() {
            kind = END;
            start = 0;
            end = 0;
            value = 0;
        }

        void step() {
            while (end < length && isBlank(byteAt(end))) {
                end++;
            }
            start = end;
            if (start >= length) {
                kind = END;
            } else if (isLetter(byteAt(start))) {
                readWord();
            } else if (isDigit(byteAt(start))) {
                readNumber();
            } else {
                kind = byteAt(start) == ';' ? SEMICOLON : BAD;
                end++;
            }
        }

        private void readWord() {
            while (end < length && isLetter(byteAt(end))) {
                end++;
            }
            kind = end - start <= MOST_LETTERS ? WORD : BAD;
        }

        private void readNumber() {
            value = 0;
            while (end < length && isDigit(byteAt(end))) {
                value = 10 * value + byteAt(end) - '0';
                end++;
            }
            kind = end - start <= MOST_DIGITS ? NUMBER : BAD;
        }

        boolean isWord(String word) {
            if (kind != WORD || end - start != word.length()) {
                return false;
            }
            for (int at = 0; at < word.length(); at++) {
                if (word.charAt(at) != byteAt(start + at)) {
                    return false;
                }
            }
            return true;
        }

        private int byteAt(int at) {
            return at >= 0 && at < length && at < text.length ? text[at] : 0;
        }

        private static boolean isBlank(int sign) {
            return sign == 32 || sign == 10;
        }

        private static boolean isLetter(int sign) {
            return sign >= 'a' && sign <= 'z';
        }

        private static boolean isDigit(int sign) {
            return sign >= '0' && sign <= '9';
        }
    }

    /** Reads the texts of load() and play(), and knows the latest error. */
    private static final class Reader {
        final Tokens tokens;
        final int[] numbers;
        final int[] commands;
        int commandCount;
        int errorCode;
        int errorPosition;
        boolean benchesRead;
        boolean lifeRead;

        Reader() {
            tokens = new Tokens();
            numbers = new int[RECIPE_RANGES.length / 2];
            commands = new int[COMMAND_LIMIT * COMMAND_WIDTH];
            errorPosition = NONE;
        }

        boolean readStudio(Studio draft) {
            begin();
            draft.clear();
            boolean good = true;
            for (int turn = 0; good && turn <= INPUT_LIMIT; turn++) {
                tokens.step();
                if (tokens.kind == Tokens.END) {
                    break;
                }
                good = readStatement(draft);
            }
            tokens.length = 0;
            return good;
        }

        boolean readScript() {
            begin();
            boolean good = true;
            for (int turn = 0; good && turn <= COMMAND_LIMIT; turn++) {
                tokens.step();
                if (tokens.kind == Tokens.END) {
                    break;
                }
                good = readCommand();
            }
            tokens.length = 0;
            return good;
        }

        int commandPart(int command, int part) {
            int at = command * COMMAND_WIDTH + part;
            return at >= 0 && at < commands.length ? commands[at] : NONE;
        }

        private void begin() {
            tokens.rewind();
            commandCount = 0;
            errorCode = 0;
            errorPosition = NONE;
            benchesRead = false;
            lifeRead = false;
        }

        private boolean readStatement(Studio draft) {
            int word = statementWord();
            if (word == NONE) {
                return failed(SYNTAX);
            }
            if ((word == BENCHES_WORD && benchesRead) || (word == LIFE_WORD && lifeRead)) {
                return failed(TWICE);
            }
            if (isFull(draft, word)) {
                return failed(LIMIT);
            }
            if (!readNumbers(word)) {
                return false;
            }
            addTo(draft, word);
            return true;
        }

        private static boolean isFull(Studio draft, int word) {
            switch (word) {
                case PRESS_WORD: return draft.pressCount >= PRESS_LIMIT;
                case RECIPE_WORD: return draft.recipeCount >= RECIPE_LIMIT;
                case OBJECT_WORD: return draft.itemCount >= OBJECT_LIMIT;
                default: return false;
            }
        }

        private void addTo(Studio draft, int word) {
            switch (word) {
                case BENCHES_WORD:
                    draft.benches = number(0);
                    benchesRead = true;
                    break;
                case LIFE_WORD:
                    draft.life = number(0);
                    lifeRead = true;
                    break;
                case PRESS_WORD:
                    draft.addPress(number(0));
                    break;
                case RECIPE_WORD:
                    fill(draft.addRecipe());
                    break;
                default:
                    draft.addItem(number(0), number(1), number(2));
                    break;
            }
        }

        private void fill(Recipe recipe) {
            recipe.work = number(0);
            recipe.cure = number(1);
            recipe.inPress = number(2);
            recipe.level = number(3);
            recipe.base = number(4);
            recipe.rate = number(5);
            recipe.wage = number(6);
        }

        private boolean readCommand() {
            int word = commandWord();
            if (word == NONE) {
                return failed(SYNTAX);
            }
            if (commandCount >= COMMAND_LIMIT) {
                return failed(LIMIT);
            }
            if (!readNumbers(word)) {
                return false;
            }
            keepCommand(word);
            return true;
        }

        private void keepCommand(int word) {
            int at = commandCount * COMMAND_WIDTH;
            if (at >= 0 && at + 4 < commands.length) {
                commands[at] = word;
                commands[at + 1] = number(0);
                commands[at + 2] = number(1);
                commands[at + 3] = number(2);
                commands[at + 4] = number(3);
                commandCount++;
            }
        }

        /** Reads the numbers behind a word and the semicolon behind them. */
        private boolean readNumbers(int word) {
            int[] ranges = rangesOf(word);
            for (int place = 0; 2 * place + 1 < ranges.length && place < numbers.length; place++) {
                tokens.step();
                if (tokens.kind != Tokens.NUMBER) {
                    return failed(SYNTAX);
                }
                if (tokens.value < ranges[2 * place] || tokens.value > ranges[2 * place + 1]) {
                    return failed(RANGE);
                }
                numbers[place] = tokens.value;
            }
            tokens.step();
            return tokens.kind == Tokens.SEMICOLON || failed(SYNTAX);
        }

        private int number(int place) {
            return place >= 0 && place < numbers.length ? numbers[place] : 0;
        }

        private boolean failed(int code) {
            errorCode = code;
            errorPosition = tokens.start;
            return false;
        }

        private int statementWord() {
            if (tokens.isWord("benches")) {
                return BENCHES_WORD;
            }
            if (tokens.isWord("life")) {
                return LIFE_WORD;
            }
            if (tokens.isWord("press")) {
                return PRESS_WORD;
            }
            if (tokens.isWord("recipe")) {
                return RECIPE_WORD;
            }
            return tokens.isWord("object") ? OBJECT_WORD : NONE;
        }

        private int commandWord() {
            if (tokens.isWord("plan")) {
                return PLAN_WORD;
            }
            if (tokens.isWord("cancel")) {
                return CANCEL_WORD;
            }
            if (tokens.isWord("approve")) {
                return APPROVE_WORD;
            }
            if (tokens.isWord("lend")) {
                return LEND_WORD;
            }
            if (tokens.isWord("recall")) {
                return RECALL_WORD;
            }
            return tokens.isWord("tick") ? TICK_WORD : NONE;
        }

        private static int[] rangesOf(int word) {
            switch (word) {
                case BENCHES_WORD: return BENCHES_RANGES;
                case LIFE_WORD: return LIFE_RANGES;
                case PRESS_WORD: return PRESS_RANGES;
                case RECIPE_WORD: return RECIPE_RANGES;
                case OBJECT_WORD: return OBJECT_RANGES;
                case PLAN_WORD: return PLAN_RANGES;
                case LEND_WORD: return LEND_RANGES;
                case TICK_WORD: return TICK_RANGES;
                default: return OBJECT_NUMBER_RANGES;
            }
        }
    }
}
