import java.util.Arrays;
import java.util.NoSuchElementException;

/**
 * A town whose doors open only to two who disagree. The numbered promises stand in ../shared/DOC.md;
 * the words of that document (PERSON, DOOR, SLATE, TODAY, ..) are used here as it means them.
 */
public final class TwoHandles {
    public static final int NONE = -1;

    private static final int MOST_BYTES = 500;
    private static final int BYTES_A_FEED = 20;
    private static final int MOST_CLAUSES = 40;
    private static final int MOST_PERSONS = 8;
    /** The PERSONS and one STRANGER. */
    private static final int MOST_SEATS = 9;
    private static final int MOST_DOORS = 10;
    private static final int MOST_QUESTIONS = 4;
    private static final int MOST_SLATE = 7;
    private static final int MOST_THOUGHT = 8;
    private static final int MOST_LED = 4;
    private static final int MOST_GAP = 8;
    private static final int MOST_ROWS = 30;
    private static final int MOST_IMAGES = 3;
    private static final int MOST_STAKE = 99;
    private static final int ALL_DAYS = 30;
    private static final int ALL_RULES = 4;

    private final int[] tape = new int[MOST_BYTES];
    private int tapeBytes = 0;
    private int faultPlace = NONE;
    private final Town town = new Town();
    private final Town draft = new Town();
    private final Reader reader = new Reader(tape, draft);
    private final Scene live = new Scene(town);
    private final Scene trial = new Scene(town);
    private final Scene[] images = {new Scene(town), new Scene(town), new Scene(town)};
    private int imageCount = 0;
    private final Plan plan = new Plan(town);
    private final Circle circle = new Circle(town);
    private final Runner runner = new Runner(town, trial);
    private final Seeker seeker = new Seeker(town);
    /** Made at the first few(): its rows are large, and many objects never need them. */
    private Gathering gathering = null;

    public TwoHandles() {
    }

    public int feed(int a, int b, int c, int d, int e) {
        if (tapeBytes + BYTES_A_FEED > MOST_BYTES) {
            return NONE;
        }
        putBytes(a);
        putBytes(b);
        putBytes(c);
        putBytes(d);
        putBytes(e);
        return tapeBytes;
    }

    public int town(int n) throws IllegalArgumentException {
        if (n < 0 || n > tapeBytes) {
            throw new IllegalArgumentException("not so many bytes on the tape");
        }
        tapeBytes = 0;
        int kind = reader.readTown(n);
        if (kind != 0) {
            faultPlace = reader.place;
            return kind - 10;
        }
        faultPlace = NONE;
        town.copyFrom(draft);
        live.beginAnew();
        imageCount = 0;
        return town.persons;
    }

    public int fault() {
        return faultPlace;
    }

    public int told(int what) throws IllegalArgumentException {
        switch (what) {
            case 0: return town.asks;
            case 1: return town.persons;
            case 2: return town.doors;
            case 3: return town.gap;
            case 4: return town.day;
            case 5: return town.kinPairs();
            case 6: return town.slateLength;
            default: throw new IllegalArgumentException("no such what");
        }
    }

    public int thinks(int person, int question) throws NoSuchElementException, IllegalArgumentException {
        needPerson(person);
        needQuestion(question);
        return live.thought(person, question);
    }

    public int person(int person, int what) throws NoSuchElementException, IllegalArgumentException {
        needPerson(person);
        switch (what) {
            case 0: return town.led[person];
            case 1: return live.left[person];
            case 2: return town.feigning[person];
            case 3: return Integer.bitCount(town.kin[person]);
            default: throw new IllegalArgumentException("no such what");
        }
    }

    public int door(int door, int what) throws IndexOutOfBoundsException, IllegalArgumentException {
        needDoor(door);
        switch (what) {
            case 0: return town.worth[door];
            case 1: return town.minutes[door];
            case 2: return town.until[door];
            case 3: return town.about[door];
            case 4: return live.isOpen(door) ? 1 : 0;
            default: throw new IllegalArgumentException("no such what");
        }
    }

    public int slate(int day) throws IllegalArgumentException {
        needDay(day);
        return town.slateOf(day);
    }

    public int work(int door, int person, int other) throws IndexOutOfBoundsException, NoSuchElementException {
        needDoor(door);
        needPerson(person);
        needPerson(other);
        int by = live.errs(door, person, other);
        return by != 0 ? -by : live.doWork(door, person, other);
    }

    public int may(int door, int person, int other) throws IndexOutOfBoundsException, NoSuchElementException {
        needDoor(door);
        needPerson(person);
        needPerson(other);
        return live.errs(door, person, other);
    }

    public int next() throws IllegalStateException {
        if (town.asks == 0) {
            throw new IllegalStateException("there is no town");
        }
        if (live.now >= ALL_DAYS - 1) {
            return -1;
        }
        live.beginDay(live.now + 1);
        return live.now;
    }

    public int talk(int person, int other, int question) throws NoSuchElementException, IllegalArgumentException {
        needPerson(person);
        needPerson(other);
        needQuestion(question);
        if (person == other) {
            throw new IllegalArgumentException("nobody talks with himself");
        }
        live.stepTowards(person, other, question);
        return live.thought(person, question);
    }

    public int earned(int what) throws IllegalArgumentException {
        needWhat(what, 1);
        int sum = 0;
        for (int d = 0; d < town.doors; d++) {
            boolean counts = what == 0 ? live.isOpen(d) : !live.isOpen(d) && live.isTooLate(d);
            sum += counts ? town.worth[d] : 0;
        }
        return sum;
    }

    public int row(int day, int door, int person, int other)
            throws IndexOutOfBoundsException, NoSuchElementException, IllegalArgumentException {
        needDoor(door);
        needPerson(person);
        needPerson(other);
        needDay(day);
        if (live.rowCount >= MOST_ROWS) {
            return -1;
        }
        live.rows[live.rowCount] = 1000 * day + workCode(door, person, other);
        live.rowCount++;
        return live.rowCount;
    }

    public int clear() {
        int gone = live.rowCount;
        live.rowCount = 0;
        return gone;
    }

    public int judge(int what) throws IllegalArgumentException {
        needWhat(what, 1);
        trial.copyWorld(live);
        int firstWrong = NONE;
        int sum = 0;
        for (int i = 0; i < live.rowCount; i++) {
            int by = playRow(live.rows[i]);
            if (by == 0) {
                sum += town.worth[doorOfRow(live.rows[i])];
            } else if (firstWrong == NONE) {
                firstWrong = 10 * i + by;
            }
        }
        return what == 0 ? firstWrong : sum;
    }

    public int today(int question, int what) throws IllegalArgumentException {
        needQuestionOrNone(question);
        needWhat(what, 1);
        planToday(question);
        return what == 0 ? plan.worthAtMost() : plan.doorsAtMost();
    }

    public int pair(int question, int door) throws IllegalArgumentException, IndexOutOfBoundsException {
        needQuestionOrNone(question);
        needDoor(door);
        planToday(question);
        return plan.seatedAt(door);
    }

    public int bound(int question) throws IllegalArgumentException {
        needQuestionOrNone(question);
        planToday(question);
        return plan.greatestWorths(town.persons / 2);
    }

    public int need(int question, int what) throws IllegalArgumentException {
        needQuestionOrNone(question);
        needWhat(what, 1);
        planToday(question);
        int fewest = plan.fewestPersons();
        return what == 0 ? Integer.bitCount(fewest) : fewest;
    }

    public int choose() {
        int chosen = NONE;
        int most = -1;
        for (int q = 0; q < town.asks; q++) {
            planToday(q);
            if (plan.worthAtMost() > most) {
                most = plan.worthAtMost();
                chosen = q;
            }
        }
        return chosen;
    }

    public int stranger(int question, int thinks, int led) throws IllegalArgumentException {
        needQuestionOrNone(question);
        if (town.asks == 0 || led < 0 || led > MOST_LED || !areThoughts(thinks)) {
            throw new IllegalArgumentException("no such stranger");
        }
        planToday(question);
        int without = plan.worthAtMost();
        trial.addStranger(thinks, led);
        plan.make(trial);
        return plan.worthAtMost() - without;
    }

    public int night(int question) throws IllegalArgumentException {
        needQuestion(question);
        if (live.now >= ALL_DAYS - 1) {
            return NONE;
        }
        trial.copyWorld(live);
        trial.beginDay(live.now + 1);
        plan.make(trial);
        int most = plan.worthAtMost();
        int chosen = NONE;
        for (int goer = 0; goer < town.persons; goer++) {
            int sidesSeen = 0;
            for (int other = 0; other < town.persons; other++) {
                // All who are on one side of him lead him to the same step: the first of them stands for all.
                int side = 1 << trial.stepTo(goer, other, question) + 1;
                int worth = (sidesSeen & side) == 0 ? worthBehindTalk(goer, other, question) : -1;
                sidesSeen |= side;
                if (worth > most) {
                    most = worth;
                    chosen = 10 * goer + other;
                }
            }
        }
        return chosen;
    }

    public int best(int what) throws IllegalArgumentException {
        needWhat(what, 2);
        seeker.seekBestRow(live);
        return seeker.answer(what);
    }

    public int run(int rule, int days, int what) throws IllegalArgumentException {
        needRule(rule);
        needDays(days);
        needWhat(what, 3);
        trial.copyWorld(live);
        runner.goOn(rule, days, false, 0);
        return runner.answer(what);
    }

    public int lot(int rule, int days, int what, int seed) throws IllegalArgumentException {
        needRule(rule);
        needDays(days);
        needWhat(what, 3);
        trial.copyWorld(live);
        runner.goOn(rule, days, true, seed);
        return runner.answer(what);
    }

    public int rule(int days) throws IllegalArgumentException {
        needDays(days);
        int chosen = 0;
        int most = -1;
        for (int r = 0; r < ALL_RULES; r++) {
            int worth = worthOfRun(r, days, NONE);
            if (worth > most) {
                most = worth;
                chosen = r;
            }
        }
        return chosen;
    }

    public int few(int bits, int question, int what) throws IllegalArgumentException {
        int members = Integer.bitCount(bits);
        if (bits < 0 || bits >= 1 << town.persons || members < 2 || members > Gathering.MOST_MEMBERS) {
            throw new IllegalArgumentException("not two to four persons");
        }
        needQuestion(question);
        needWhat(what, 1);
        if (gathering == null) {
            gathering = new Gathering(town);
        }
        gathering.gather(live, bits, question);
        return what == 0 ? gathering.mostWorks() : gathering.soonest;
    }

    public int pairs(int question, int what) throws IllegalArgumentException {
        needQuestion(question);
        needWhat(what, 1);
        circle.draw(live, question, live.gap);
        return what == 0 ? circle.twos() : circle.threes();
    }

    public int edge(int question, int what) throws IllegalArgumentException {
        needQuestion(question);
        needWhat(what, 1);
        for (int gap = MOST_GAP; gap >= 1; gap--) {
            circle.draw(live, question, gap);
            if ((what == 0 ? circle.twos() : circle.threes()) > 0) {
                return gap;
            }
        }
        return 0;
    }

    public int rest(int person, int w, int p, int c, int g, int what)
            throws NoSuchElementException, IllegalArgumentException {
        needPerson(person);
        needStake(w);
        needStake(p);
        needStake(c);
        needStake(g);
        needWhat(what, 1);
        int seen = 10 - town.feigning[person];
        int won = what == 0 ? w : c;
        int divisor = seen * (what == 0 ? w + p : g);
        return divisor <= 0 ? 1000 : Math.min(1000, 10000 * won / divisor);
    }

    public int once(int question) throws IllegalArgumentException {
        needQuestion(question);
        circle.draw(live, question, live.gap);
        return circle.mostAtOneTime();
    }

    public int calm(int question, int what) throws IllegalArgumentException {
        needQuestion(question);
        needWhat(what, 1);
        circle.draw(live, question, live.gap);
        int quiet = circle.greatestCalm();
        return what == 0 ? Integer.bitCount(quiet) : quiet;
    }

    public int family(int person) throws IllegalArgumentException {
        if (person != NONE && !isPerson(person)) {
            throw new IllegalArgumentException("no such person");
        }
        return person == NONE ? town.families() : Integer.bitCount(town.familyOf(person));
    }

    public int starved(int rule) throws IllegalArgumentException {
        needRule(rule);
        trial.copyWorld(live);
        runner.goOn(rule, ALL_DAYS - live.now, false, 0);
        return runner.starvedDay;
    }

    public int slack(int question) throws IllegalArgumentException {
        needQuestionOrNone(question);
        planToday(question);
        int due = plan.worthAtMost();
        if (due == 0) {
            return 0;
        }
        for (int gap = MOST_GAP; gap > town.gap; gap--) {
            trial.gap = gap;
            plan.make(trial);
            if (plan.worthAtMost() == due) {
                return gap;
            }
        }
        return town.gap;
    }

    public int firm(int person, int rule, int days) throws NoSuchElementException, IllegalArgumentException {
        needPerson(person);
        needRule(rule);
        needDays(days);
        return worthOfRun(rule, days, person) - worthOfRun(rule, days, NONE);
    }

    public int twoDays(int what) throws IllegalArgumentException {
        needWhat(what, 2);
        seeker.seekTwoDays(live);
        return seeker.answer(what);
    }

    public int image() {
        if (imageCount >= MOST_IMAGES) {
            return -1;
        }
        images[imageCount].copyWorld(live);
        images[imageCount].copyRows(live);
        imageCount++;
        return imageCount;
    }

    public int restore() {
        if (imageCount <= 0) {
            return -1;
        }
        imageCount--;
        live.copyWorld(images[imageCount]);
        live.copyRows(images[imageCount]);
        return imageCount;
    }

    public int count(int what) {
        switch (what) {
            case 0: return live.now;
            case 1: return Integer.bitCount(live.open);
            case 2: return live.rowCount;
            case 3: return imageCount;
            case 4: return tapeBytes;
            default: return NONE;
        }
    }

    private void putBytes(int number) {
        for (int shift = 24; shift >= 0; shift -= 8) {
            if (tapeBytes < MOST_BYTES) {
                tape[tapeBytes] = number >>> shift & 255;
                tapeBytes++;
            }
        }
    }

    private boolean isPerson(int person) {
        return person >= 0 && person < town.persons;
    }

    private void needPerson(int person) {
        if (!isPerson(person)) {
            throw new NoSuchElementException("no such person");
        }
    }

    private void needDoor(int door) {
        if (door < 0 || door >= town.doors) {
            throw new IndexOutOfBoundsException("no such door");
        }
    }

    private void needQuestion(int question) {
        if (question < 0 || question >= town.asks) {
            throw new IllegalArgumentException("no such question");
        }
    }

    private void needQuestionOrNone(int question) {
        if (question != NONE) {
            needQuestion(question);
        }
    }

    private void needWhat(int what, int most) {
        if (what < 0 || what > most) {
            throw new IllegalArgumentException("no such what");
        }
    }

    private void needDay(int day) {
        if (day < 0 || day >= ALL_DAYS) {
            throw new IllegalArgumentException("no such day");
        }
    }

    private void needDays(int days) {
        if (days < 1 || days > ALL_DAYS - live.now) {
            throw new IllegalArgumentException("not so many days");
        }
    }

    private void needRule(int rule) {
        if (rule < 0 || rule >= ALL_RULES) {
            throw new IllegalArgumentException("no such rule");
        }
    }

    private void needStake(int stake) {
        if (stake < 1 || stake > MOST_STAKE) {
            throw new IllegalArgumentException("no such stake");
        }
    }

    private static int workCode(int door, int person, int other) {
        return 100 * door + 10 * person + other;
    }

    private static int doorOfRow(int row) {
        return row / 100 % 10;
    }

    /** Plays one ROW on the trial: by what it ERRS. */
    private int playRow(int row) {
        int day = row / 1000;
        int door = doorOfRow(row);
        int person = row / 10 % 10;
        int other = row % 10;
        if (day < trial.now) {
            return 6;
        }
        // A ROW that ERRS otherwise is still where one comes to.
        if (day > trial.now) {
            trial.beginDay(day);
        }
        int by = trial.errs(door, person, other);
        if (by == 0) {
            trial.doWork(door, person, other);
        }
        return by;
    }

    private void planToday(int question) {
        trial.copyWorld(live);
        if (question != NONE) {
            trial.asked = question;
        }
        plan.make(trial);
    }

    private boolean areThoughts(int digits) {
        int rest = digits;
        for (int q = 0; q < town.asks; q++) {
            if (rest % 10 > MOST_THOUGHT) {
                return false;
            }
            rest /= 10;
        }
        return digits >= 0 && rest == 0;
    }

    /** What TODAY of the trial is worth behind a TALK; -1 if it can't be more than without. */
    private int worthBehindTalk(int goer, int other, int question) {
        int before = trial.thought(goer, question);
        int rivals = trial.rivalsOf(goer, question, trial.gap);
        int worth = -1;
        trial.stepTowards(goer, other, question);
        // Whoever wins nobody to work with opens nothing more; to plan each TALK anew would take long.
        if ((trial.rivalsOf(goer, question, trial.gap) & ~rivals) != 0) {
            plan.make(trial);
            worth = plan.worthAtMost();
        }
        trial.putThought(goer, question, before);
        return worth;
    }

    private int worthOfRun(int rule, int days, int stiff) {
        trial.copyWorld(live);
        if (stiff != NONE) {
            trial.led[stiff] = 0;
        }
        runner.goOn(rule, days, false, 0);
        return runner.worth;
    }

    /** What the lesser of two thinks behind a WORK. */
    private static int lesserBehind(int lesser, int greater, int ledLesser, int ledGreater) {
        int apart = greater - lesser;
        int steps = ledLesser + ledGreater;
        if (steps <= apart || steps <= 0) {
            return lesser + ledLesser;
        }
        return lesser + apart * ledLesser / steps;
    }

    /** What the greater of two thinks behind a WORK. */
    private static int greaterBehind(int lesser, int greater, int ledLesser, int ledGreater) {
        if (ledLesser + ledGreater <= greater - lesser) {
            return greater - ledGreater;
        }
        return lesserBehind(lesser, greater, ledLesser, ledGreater);
    }

    /** The TOWN as it was told; nothing in it changes until another one is told. */
    private static final class Town {
        private int asks = 0;
        private int persons = 0;
        private int doors = 0;
        private int gap = 0;
        private int day = 0;
        private int slateLength = 0;
        private final int[] slateDigits = new int[MOST_SLATE];
        private final int[] opinions = new int[MOST_SEATS * MOST_QUESTIONS];
        private final int[] led = new int[MOST_SEATS];
        private final int[] feigning = new int[MOST_SEATS];
        /** Of each PERSON the bits of his kin; the seat behind the last PERSON stays without. */
        private final int[] kin = new int[MOST_SEATS];
        private final int[] worth = new int[MOST_DOORS];
        private final int[] minutes = new int[MOST_DOORS];
        private final int[] until = new int[MOST_DOORS];
        private final int[] about = new int[MOST_DOORS];

        private void startAnew() {
            asks = 0;
            persons = 0;
            doors = 0;
            gap = 4;
            day = 480;
            slateLength = 0;
            Arrays.fill(feigning, 0);
            Arrays.fill(kin, 0);
        }

        private void copyFrom(Town from) {
            asks = from.asks;
            persons = from.persons;
            doors = from.doors;
            gap = from.gap;
            day = from.day;
            slateLength = from.slateLength;
            System.arraycopy(from.slateDigits, 0, slateDigits, 0, MOST_SLATE);
            System.arraycopy(from.opinions, 0, opinions, 0, MOST_SEATS * MOST_QUESTIONS);
            System.arraycopy(from.led, 0, led, 0, MOST_SEATS);
            System.arraycopy(from.feigning, 0, feigning, 0, MOST_SEATS);
            System.arraycopy(from.kin, 0, kin, 0, MOST_SEATS);
            System.arraycopy(from.worth, 0, worth, 0, MOST_DOORS);
            System.arraycopy(from.minutes, 0, minutes, 0, MOST_DOORS);
            System.arraycopy(from.until, 0, until, 0, MOST_DOORS);
            System.arraycopy(from.about, 0, about, 0, MOST_DOORS);
        }

        private int slateOf(int someDay) {
            if (slateLength <= 0 || someDay < 0) {
                return 0;
            }
            return slateDigits[someDay % slateLength];
        }

        private void makeKin(int person, int other) {
            kin[person] |= 1 << other;
            kin[other] |= 1 << person;
        }

        private boolean areKin(int person, int other) {
            return (kin[person] >> other & 1) != 0;
        }

        private int kinPairs() {
            int ends = 0;
            for (int p = 0; p < persons; p++) {
                ends += Integer.bitCount(kin[p]);
            }
            return ends / 2;
        }

        /** The bits of all who hang together with a PERSON by kin. */
        private int familyOf(int person) {
            int family = 1 << person;
            // Kin of kin are as many steps away as there are PERSONS, at most.
            for (int step = 0; step < persons; step++) {
                for (int p = 0; p < persons; p++) {
                    family |= (family >> p & 1) != 0 ? kin[p] : 0;
                }
            }
            return family;
        }

        private int families() {
            int found = 0;
            for (int p = 0; p < persons; p++) {
                // Each family is counted at its least PERSON.
                found += Integer.numberOfTrailingZeros(familyOf(p)) == p ? 1 : 0;
            }
            return found;
        }
    }

    /** Reads a TOWN's text from the TAPE into a draft. */
    private static final class Reader {
        private static final int CANNOT_STAND = 1;
        private static final int NO_SUCH_NUMBER = 2;
        private static final int TOO_MANY = 3;
        private static final int NO_WORD = 0;
        private static final int ASKS = 1;
        private static final int PERSON = 2;
        private static final int FEIGNS = 3;
        private static final int KIN = 4;
        private static final int DOOR = 5;
        private static final int GAP = 6;
        private static final int DAY = 7;
        private static final int SLATE = 8;
        /** Greater than any number that a TOWN may tell. */
        private static final int HUGE = 100000;

        private final int[] text;
        private final Town draft;
        private int end = 0;
        private int at = 0;
        private int kind = 0;
        private int place = NONE;

        private Reader(int[] text, Town draft) {
            this.text = text;
            this.draft = draft;
        }

        /** The kind of the FAULT, whose place is kept; 0 if there is none. */
        private int readTown(int length) {
            end = Math.min(length, text.length);
            at = 0;
            kind = 0;
            place = NONE;
            draft.startAnew();
            boolean goesOn = readAsks();
            for (int before = 1; goesOn && before <= MOST_CLAUSES; before++) {
                skipBlanks();
                goesOn = at < end && readClause(before);
            }
            return kind;
        }

        private boolean wrong(int faultKind, int faultPlace) {
            kind = faultKind;
            place = faultPlace;
            return false;
        }

        private boolean readAsks() {
            skipBlanks();
            int start = at;
            if (readWord() != ASKS) {
                return wrong(CANNOT_STAND, start);
            }
            draft.asks = readNumber(1, MOST_QUESTIONS);
            return kind == 0 && readSemicolon();
        }

        private boolean readClause(int before) {
            int start = at;
            int word = readWord();
            if (word == NO_WORD || word == ASKS) {
                return wrong(CANNOT_STAND, start);
            }
            boolean tooMany = before >= MOST_CLAUSES
                    || word == PERSON && draft.persons >= MOST_PERSONS
                    || word == DOOR && draft.doors >= MOST_DOORS;
            if (tooMany) {
                return wrong(TOO_MANY, start);
            }
            return readRest(word) && readSemicolon();
        }

        private boolean readRest(int word) {
            switch (word) {
                case PERSON: return readPerson();
                case FEIGNS: return readFeigns();
                case KIN: return readKin();
                case DOOR: return readDoor();
                case GAP:
                    draft.gap = readNumber(1, MOST_GAP);
                    return kind == 0;
                case DAY:
                    draft.day = readNumber(30, 999);
                    return kind == 0;
                default: return readSlate();
            }
        }

        private boolean readPerson() {
            int start = readDigits();
            if (kind != 0) {
                return false;
            }
            if (at - start != draft.asks || !areDigitsUpTo(start, MOST_THOUGHT)) {
                return wrong(NO_SUCH_NUMBER, start);
            }
            for (int q = 0; q < draft.asks; q++) {
                draft.opinions[draft.persons * MOST_QUESTIONS + q] = text[start + q] - '0';
            }
            draft.led[draft.persons] = readNumber(0, MOST_LED);
            draft.persons++;
            return kind == 0;
        }

        private boolean readFeigns() {
            int person = readNumber(0, draft.persons - 1);
            if (kind != 0) {
                return false;
            }
            draft.feigning[person] = readNumber(0, 9);
            return kind == 0;
        }

        private boolean readKin() {
            int person = readNumber(0, draft.persons - 1);
            if (kind != 0) {
                return false;
            }
            skipBlanks();
            int start = at;
            int other = readNumber(0, draft.persons - 1);
            if (kind != 0) {
                return false;
            }
            if (other == person) {
                return wrong(NO_SUCH_NUMBER, start);
            }
            draft.makeKin(person, other);
            return true;
        }

        private boolean readDoor() {
            int door = draft.doors;
            draft.worth[door] = readNumber(1, 99);
            if (kind != 0) {
                return false;
            }
            draft.minutes[door] = readNumber(1, 240);
            if (kind != 0) {
                return false;
            }
            draft.until[door] = readNumber(0, ALL_DAYS - 1);
            if (kind != 0) {
                return false;
            }
            skipBlanks();
            draft.about[door] = standsDigit() ? readNumber(0, draft.asks - 1) : NONE;
            draft.doors++;
            return kind == 0;
        }

        private boolean readSlate() {
            int start = readDigits();
            if (kind != 0) {
                return false;
            }
            if (at - start > MOST_SLATE || !areDigitsUpTo(start, draft.asks - 1)) {
                return wrong(NO_SUCH_NUMBER, start);
            }
            draft.slateLength = at - start;
            for (int i = 0; i < draft.slateLength; i++) {
                draft.slateDigits[i] = text[start + i] - '0';
            }
            return true;
        }

        private void skipBlanks() {
            while (at < end && text[at] == ' ') {
                at++;
            }
        }

        private boolean standsDigit() {
            return at < end && text[at] >= '0' && text[at] <= '9';
        }

        private boolean readSemicolon() {
            skipBlanks();
            if (at >= end || text[at] != ';') {
                return wrong(CANNOT_STAND, at);
            }
            at++;
            return true;
        }

        /** Goes behind the digits that stand there: where they begin. */
        private int readDigits() {
            skipBlanks();
            int start = at;
            while (at < end && standsDigit()) {
                at++;
            }
            if (at == start) {
                wrong(CANNOT_STAND, at);
            }
            return start;
        }

        private boolean areDigitsUpTo(int start, int most) {
            for (int i = start; i < at; i++) {
                if (text[i] - '0' > most) {
                    return false;
                }
            }
            return true;
        }

        /** A number of these; 0, and a FAULT is kept, if there is none such. */
        private int readNumber(int least, int most) {
            int start = readDigits();
            if (kind != 0) {
                return 0;
            }
            int number = 0;
            for (int i = start; i < at; i++) {
                number = Math.min(HUGE, number * 10 + text[i] - '0');
            }
            if (number < least || number > most) {
                wrong(NO_SUCH_NUMBER, start);
                return 0;
            }
            return number;
        }

        private int readWord() {
            int start = at;
            while (at < end && text[at] >= 'a' && text[at] <= 'z') {
                at++;
            }
            if (stands("asks", start)) {
                return ASKS;
            }
            if (stands("person", start)) {
                return PERSON;
            }
            if (stands("feigns", start)) {
                return FEIGNS;
            }
            if (stands("kin", start)) {
                return KIN;
            }
            if (stands("door", start)) {
                return DOOR;
            }
            if (stands("gap", start)) {
                return GAP;
            }
            if (stands("day", start)) {
                return DAY;
            }
            return stands("slate", start) ? SLATE : NO_WORD;
        }

        private boolean stands(String word, int start) {
            if (at - start != word.length()) {
                return false;
            }
            for (int i = 0; i < word.length(); i++) {
                if (text[start + i] != word.charAt(i)) {
                    return false;
                }
            }
            return true;
        }
    }

    /** A TOWN as it goes on: all that a day, a WORK, a TALK or a supposition can change. */
    private static final class Scene {
        private final Town town;
        private int now = 0;
        /** The QUESTION on the SLATE, or the one supposed to be there. */
        private int asked = 0;
        private int gap = 0;
        private int persons = 0;
        /** The bits of the DOORS that are open. */
        private int open = 0;
        private final int[] opinions = new int[MOST_SEATS * MOST_QUESTIONS];
        private final int[] left = new int[MOST_SEATS];
        private final int[] led = new int[MOST_SEATS];
        private int rowCount = 0;
        private final int[] rows = new int[MOST_ROWS];

        private Scene(Town town) {
            this.town = town;
        }

        private void beginAnew() {
            gap = town.gap;
            persons = town.persons;
            open = 0;
            System.arraycopy(town.opinions, 0, opinions, 0, MOST_SEATS * MOST_QUESTIONS);
            System.arraycopy(town.led, 0, led, 0, MOST_SEATS);
            rowCount = 0;
            beginDay(0);
        }

        private void beginDay(int day) {
            now = day;
            asked = town.slateOf(day);
            Arrays.fill(left, town.day);
        }

        private void copyWorld(Scene from) {
            now = from.now;
            asked = from.asked;
            gap = from.gap;
            persons = from.persons;
            open = from.open;
            System.arraycopy(from.opinions, 0, opinions, 0, MOST_SEATS * MOST_QUESTIONS);
            System.arraycopy(from.left, 0, left, 0, MOST_SEATS);
            System.arraycopy(from.led, 0, led, 0, MOST_SEATS);
        }

        private void copyRows(Scene from) {
            rowCount = from.rowCount;
            System.arraycopy(from.rows, 0, rows, 0, MOST_ROWS);
        }

        private void addStranger(int digits, int ledBy) {
            if (persons >= MOST_SEATS) {
                return;
            }
            int rest = digits;
            for (int q = 0; q < town.asks; q++) {
                putThought(persons, q, rest % 10);
                rest /= 10;
            }
            left[persons] = town.day;
            led[persons] = ledBy;
            persons++;
        }

        private int thought(int person, int question) {
            return opinions[person * MOST_QUESTIONS + question];
        }

        private void putThought(int person, int question, int thought) {
            opinions[person * MOST_QUESTIONS + question] = thought;
        }

        private int apart(int person, int other, int question) {
            int mine = opinions[person * MOST_QUESTIONS + question];
            return Math.abs(mine - opinions[other * MOST_QUESTIONS + question]);
        }

        /** The bits of those who could open a DOOR of a QUESTION with a PERSON, whatever their MINUTES. */
        private int rivalsOf(int person, int question, int leastGap) {
            int rivals = 0;
            for (int p = 0; p < persons; p++) {
                boolean strange = p != person && !town.areKin(p, person);
                rivals |= strange && apart(p, person, question) >= leastGap ? 1 << p : 0;
            }
            return rivals;
        }

        /** The step of a TALK: 1 up, -1 down, 0 if they are of one mind. */
        private int stepTo(int person, int other, int question) {
            return Integer.compare(thought(other, question), thought(person, question));
        }

        private void stepTowards(int person, int other, int question) {
            putThought(person, question, thought(person, question) + stepTo(person, other, question));
        }

        private boolean isOpen(int door) {
            return (open >> door & 1) != 0;
        }

        private boolean isTooLate(int door) {
            return now > town.until[door];
        }

        private int questionOf(int door) {
            return town.about[door] == NONE ? asked : town.about[door];
        }

        /** By what a WORK ERRS; 0 if it does not. */
        private int errs(int door, int person, int other) {
            if (isOpen(door)) {
                return 1;
            }
            if (isTooLate(door)) {
                return 2;
            }
            if (person == other || town.areKin(person, other)) {
                return 3;
            }
            if (Math.min(left[person], left[other]) < town.minutes[door]) {
                return 4;
            }
            return apart(person, other, questionOf(door)) < gap ? 5 : 0;
        }

        /** A WORK that does not ERR: how far apart the two are behind it. */
        private int doWork(int door, int person, int other) {
            int question = questionOf(door);
            boolean rising = thought(person, question) <= thought(other, question);
            int lesser = rising ? person : other;
            int greater = rising ? other : person;
            int low = thought(lesser, question);
            int high = thought(greater, question);
            putThought(lesser, question, lesserBehind(low, high, led[lesser], led[greater]));
            putThought(greater, question, greaterBehind(low, high, led[lesser], led[greater]));
            left[person] -= town.minutes[door];
            left[other] -= town.minutes[door];
            open |= 1 << door;
            return apart(person, other, question);
        }

        /** The first two who could open a DOOR, 10 times the lesser and the other one; NONE. */
        private int firstTwo(int door) {
            if (isOpen(door) || isTooLate(door)) {
                return NONE;
            }
            for (int a = 0; a < persons; a++) {
                for (int b = a + 1; b < persons; b++) {
                    if (errs(door, a, b) == 0) {
                        return 10 * a + b;
                    }
                }
            }
            return NONE;
        }

        private boolean hasDoorInTime() {
            for (int d = 0; d < town.doors; d++) {
                if (!isOpen(d) && !isTooLate(d)) {
                    return true;
                }
            }
            return false;
        }
    }

    /** TODAY: for every set of PERSONS the best set of DOORS that they can open at one time. */
    private static final class Plan {
        private static final int DOOR_SETS = 1 << MOST_DOORS;
        private static final int MOST_TWOS = MOST_SEATS * (MOST_SEATS - 1) / 2;

        private final Town town;
        /** Of each DOOR all who could open it, two by two, as bits; the first two first. */
        private final int[] twos = new int[MOST_DOORS * MOST_TWOS];
        private final int[] howMany = new int[MOST_DOORS];
        /** WORTH times DOOR_SETS, less the bits of the DOORS: the greater is the better one. */
        private final int[] values = new int[1 << MOST_SEATS];
        private final int[] seated = new int[MOST_DOORS];
        private int persons = 0;

        private Plan(Town town) {
            this.town = town;
        }

        private void make(Scene scene) {
            persons = scene.persons;
            Arrays.fill(howMany, 0);
            Arrays.fill(values, 0, 1 << persons, 0);
            for (int d = 0; d < town.doors; d++) {
                if (!scene.isOpen(d) && !scene.isTooLate(d)) {
                    findTwos(scene, d);
                    offer(d);
                }
            }
        }

        private void findTwos(Scene scene, int door) {
            int found = 0;
            for (int a = 0; a < persons; a++) {
                for (int b = a + 1; b < persons; b++) {
                    if (scene.errs(door, a, b) == 0 && found < MOST_TWOS) {
                        twos[door * MOST_TWOS + found] = 1 << a | 1 << b;
                        found++;
                    }
                }
            }
            howMany[door] = found;
        }

        /** Takes a DOOR into the sets; falling, so that no set takes it twice. */
        private void offer(int door) {
            int gain = town.worth[door] * DOOR_SETS - (1 << door);
            int first = door * MOST_TWOS;
            int behind = first + howMany[door];
            for (int group = behind > first ? (1 << persons) - 1 : 0; group > 0; group--) {
                int most = values[group];
                for (int i = first; i < behind; i++) {
                    int two = twos[i];
                    if ((group & two) == two && values[group ^ two] + gain > most) {
                        most = values[group ^ two] + gain;
                    }
                }
                values[group] = most;
            }
        }

        private static int worthIn(int value) {
            return (value + DOOR_SETS - 1) / DOOR_SETS;
        }

        private int worthAtMost() {
            return worthIn(values[(1 << persons) - 1]);
        }

        private int doorsAtMost() {
            return worthAtMost() * DOOR_SETS - values[(1 << persons) - 1];
        }

        private int fewestPersons() {
            int all = (1 << persons) - 1;
            int fewest = all;
            for (int group = all; group >= 0; group--) {
                boolean enough = worthIn(values[group]) == worthAtMost();
                if (enough && Integer.bitCount(group) <= Integer.bitCount(fewest)) {
                    fewest = group;
                }
            }
            return fewest;
        }

        private int seatedAt(int door) {
            Arrays.fill(seated, NONE);
            seat(this, doorsAtMost(), (1 << persons) - 1, 0);
            return seated[door];
        }

        /** Seats two at each DOOR of a set from one on, the first by whom all behind it can be had. */
        private static boolean seat(Plan plan, int doors, int free, int door) {
            if (door >= plan.town.doors) {
                return true;
            }
            if ((doors >> door & 1) == 0) {
                return seat(plan, doors, free, door + 1);
            }
            for (int i = 0; i < plan.howMany[door]; i++) {
                int two = plan.twos[door * MOST_TWOS + i];
                if ((free & two) == two && seat(plan, doors, free ^ two, door + 1)) {
                    plan.seated[door] = asPair(two);
                    return true;
                }
            }
            return false;
        }

        private static int asPair(int two) {
            int greater = two & two - 1;
            return 10 * Integer.numberOfTrailingZeros(two) + Integer.numberOfTrailingZeros(greater);
        }

        /** The greatest WORTHS of DOORS that some two could open, so many of them, together. */
        private int greatestWorths(int doorsAtMost) {
            int taken = 0;
            int sum = 0;
            for (int i = 0; i < doorsAtMost; i++) {
                int most = NONE;
                for (int d = 0; d < town.doors; d++) {
                    boolean free = (taken >> d & 1) == 0 && howMany[d] > 0;
                    if (free && (most == NONE || town.worth[d] > town.worth[most])) {
                        most = d;
                    }
                }
                if (most != NONE) {
                    taken |= 1 << most;
                    sum += town.worth[most];
                }
            }
            return sum;
        }
    }

    /** Who could open a DOOR of a QUESTION with whom, whatever DOORS and MINUTES there are. */
    private static final class Circle {
        private final Town town;
        /** Of each PERSON the bits of those with whom he could. */
        private final int[] rivals = new int[MOST_PERSONS];
        private final int[] most = new int[1 << MOST_PERSONS];
        private int persons = 0;

        private Circle(Town town) {
            this.town = town;
        }

        private void draw(Scene scene, int question, int gap) {
            persons = town.persons;
            for (int a = 0; a < persons; a++) {
                rivals[a] = scene.rivalsOf(a, question, gap);
            }
        }

        private boolean areRivals(int a, int b) {
            return (rivals[a] >> b & 1) != 0;
        }

        private int twos() {
            int ends = 0;
            for (int a = 0; a < persons; a++) {
                ends += Integer.bitCount(rivals[a]);
            }
            return ends / 2;
        }

        private int threes() {
            int found = 0;
            for (int a = 0; a < persons; a++) {
                for (int b = a + 1; b < persons; b++) {
                    // Each three is counted at its two least PERSONS.
                    int third = areRivals(a, b) ? (rivals[a] & rivals[b]) >> (b + 1) : 0;
                    found += Integer.bitCount(third);
                }
            }
            return found;
        }

        /** The most pairs without a PERSON in two; set by set, each from lesser ones. */
        private int mostAtOneTime() {
            most[0] = 0;
            for (int group = 1; group < 1 << persons; group++) {
                int a = Integer.numberOfTrailingZeros(group);
                int behind = group & group - 1;
                int pairs = most[behind];
                for (int b = a + 1; b < persons; b++) {
                    if ((behind >> b & 1) != 0 && areRivals(a, b)) {
                        pairs = Math.max(pairs, most[behind ^ 1 << b] + 1);
                    }
                }
                most[group] = pairs;
            }
            return most[(1 << persons) - 1];
        }

        private int greatestCalm() {
            int greatest = 0;
            for (int group = 0; group < 1 << persons; group++) {
                if (Integer.bitCount(group) > Integer.bitCount(greatest) && isCalm(group)) {
                    greatest = group;
                }
            }
            return greatest;
        }

        private boolean isCalm(int group) {
            for (int a = 0; a < persons; a++) {
                if ((group >> a & 1) != 0 && (rivals[a] & group) != 0) {
                    return false;
                }
            }
            return true;
        }
    }

    /** A RUN by a RULE, on a scene that is there to be changed. */
    private static final class Runner {
        private static final int FAR = 0;
        private static final int JUST = 1;
        private static final int FIRM = 2;
        /** Less than the score of any WORK. */
        private static final int NO_SCORE = -100;

        private final Town town;
        private final Scene scene;
        private int worth = 0;
        private int works = 0;
        private int opening = NONE;
        private int starvedDay = NONE;
        private int seed = 0;
        private int bestDoor = NONE;
        private int bestPerson = 0;
        private int bestOther = 0;
        private int bestScore = 0;

        private Runner(Town town, Scene scene) {
            this.town = town;
            this.scene = scene;
        }

        private int answer(int what) {
            switch (what) {
                case 0: return worth;
                case 1: return works;
                case 2: return Integer.bitCount(scene.open);
                default: return opening;
            }
        }

        private void goOn(int rule, int days, boolean byLot, int firstSeed) {
            worth = 0;
            works = 0;
            opening = NONE;
            starvedDay = NONE;
            seed = firstSeed;
            int first = scene.now;
            for (int day = first; day < first + days; day++) {
                // The first DAY goes on with the MINUTES that are left of it.
                if (day > first) {
                    scene.beginDay(day);
                }
                if (byLot) {
                    scene.asked = drawQuestion();
                }
                boolean waiting = scene.hasDoorInTime();
                int done = works;
                workAllDay(rule);
                if (waiting && works == done && starvedDay == NONE) {
                    starvedDay = day;
                }
            }
        }

        private int drawQuestion() {
            seed = seed * 1103515245 + 12345;
            return town.asks <= 0 ? 0 : (seed >>> 16 & 32767) % town.asks;
        }

        private void workAllDay(int rule) {
            // No DOOR opens twice, so there are no more WORKS than DOORS.
            for (int i = 0; i < town.doors; i++) {
                pick(rule);
                if (bestDoor == NONE) {
                    return;
                }
                scene.doWork(bestDoor, bestPerson, bestOther);
                worth += town.worth[bestDoor];
                works++;
                if (opening == NONE) {
                    opening = workCode(bestDoor, bestPerson, bestOther);
                }
            }
        }

        private void pick(int rule) {
            bestDoor = NONE;
            for (int d = 0; d < town.doors; d++) {
                boolean shut = !scene.isOpen(d) && !scene.isTooLate(d);
                for (int a = 0; shut && a < scene.persons; a++) {
                    for (int b = a + 1; b < scene.persons; b++) {
                        int score = scene.errs(d, a, b) == 0 ? scoreOf(rule, d, a, b) : NO_SCORE;
                        if (score != NO_SCORE && isBetter(rule, d, score)) {
                            keep(d, a, b, score);
                        }
                    }
                }
            }
        }

        private void keep(int door, int a, int b, int score) {
            bestDoor = door;
            bestPerson = a;
            bestOther = b;
            bestScore = score;
        }

        /** The greater the score the better; by WORTH it is still to be divided by the MINUTES. */
        private int scoreOf(int rule, int door, int a, int b) {
            switch (rule) {
                case FAR: return scene.apart(a, b, scene.questionOf(door));
                case JUST: return -scene.apart(a, b, scene.questionOf(door));
                case FIRM: return -scene.led[a] - scene.led[b];
                default: return town.worth[door];
            }
        }

        private boolean isBetter(int rule, int door, int score) {
            if (bestDoor == NONE) {
                return true;
            }
            boolean fractions = rule > FIRM;
            int mine = fractions ? score * town.minutes[bestDoor] : score;
            int other = fractions ? bestScore * town.minutes[door] : bestScore;
            return mine > other || mine == other && town.worth[door] > town.worth[bestDoor];
        }
    }

    /** The best row of at most two WORKS, both now or one now and one on the next DAY. */
    private static final class Seeker {
        private final Town town;
        private final Scene before;
        private final Scene behind;
        private int worth = 0;
        private int first = NONE;
        private int second = NONE;

        private Seeker(Town town) {
            this.town = town;
            this.before = new Scene(town);
            this.behind = new Scene(town);
        }

        private int answer(int what) {
            switch (what) {
                case 0: return worth;
                case 1: return first;
                default: return second;
            }
        }

        private void forget() {
            worth = 0;
            first = NONE;
            second = NONE;
        }

        private void seekBestRow(Scene live) {
            forget();
            before.copyWorld(live);
            seekFirst();
            seekTwo(false);
        }

        private void seekTwoDays(Scene live) {
            forget();
            before.copyWorld(live);
            seekFirst();
            if (live.now >= ALL_DAYS - 1) {
                return;
            }
            behind.copyWorld(live);
            behind.beginDay(live.now + 1);
            seekSecond(NONE);
            seekTwo(true);
        }

        private void seekFirst() {
            for (int d = 0; d < town.doors; d++) {
                int two = town.worth[d] > worth ? before.firstTwo(d) : NONE;
                if (two != NONE) {
                    worth = town.worth[d];
                    first = 100 * d + two;
                }
            }
        }

        private void seekTwo(boolean onNextDay) {
            for (int d = 0; d < town.doors; d++) {
                for (int a = 0; a < before.persons; a++) {
                    for (int b = a + 1; b < before.persons; b++) {
                        if (before.errs(d, a, b) == 0) {
                            goBehind(d, a, b, onNextDay);
                            seekSecond(workCode(d, a, b));
                        }
                    }
                }
            }
        }

        private void goBehind(int door, int a, int b, boolean onNextDay) {
            behind.copyWorld(before);
            behind.doWork(door, a, b);
            if (onNextDay) {
                behind.beginDay(before.now + 1);
            }
        }

        /** Of the WORKS behind a first one (or none) those that make the row worth more than any before. */
        private void seekSecond(int firstWork) {
            int had = firstWork == NONE ? 0 : town.worth[doorOfRow(firstWork)];
            for (int d = 0; d < town.doors; d++) {
                int two = had + town.worth[d] > worth ? behind.firstTwo(d) : NONE;
                if (two != NONE) {
                    worth = had + town.worth[d];
                    first = firstWork;
                    second = 100 * d + two;
                }
            }
        }
    }

    /** FEW: all that two to four PERSONS can come to, told as numbers to the base of 9. */
    private static final class Gathering {
        private static final int MOST_MEMBERS = 4;
        private static final int BASE = MOST_THOUGHT + 1;
        private static final int ALL_STATES = BASE * BASE * BASE * BASE;

        private final Town town;
        private final int[] member = new int[MOST_MEMBERS];
        private final int[] ledBy = new int[MOST_MEMBERS];
        private final int[] thought = new int[MOST_MEMBERS];
        /** Of each state how many WORKS lead to it, and 1; 0 if none do. */
        private final int[] reached = new int[ALL_STATES];
        private final int[] waysIn = new int[ALL_STATES];
        private final int[] queue = new int[ALL_STATES];
        private int members = 0;
        private int gap = 0;
        private int found = 0;
        private int soonest = NONE;

        private Gathering(Town town) {
            this.town = town;
        }

        private void gather(Scene scene, int bits, int question) {
            members = 0;
            gap = scene.gap;
            int start = 0;
            for (int p = town.persons - 1; p >= 0; p--) {
                if ((bits >> p & 1) != 0 && members < MOST_MEMBERS) {
                    member[members] = p;
                    ledBy[members] = scene.led[p];
                    members++;
                }
            }
            for (int i = members - 1; i >= 0; i--) {
                start = start * BASE + scene.thought(member[i], question);
            }
            findAll(start);
        }

        /** Finds all states, the nearest first, and so the soonest one behind which nobody can. */
        private void findAll(int start) {
            Arrays.fill(reached, 0);
            Arrays.fill(waysIn, 0);
            soonest = NONE;
            reached[start] = 1;
            queue[0] = start;
            found = 1;
            for (int i = 0; i < found && i < ALL_STATES; i++) {
                unfold(queue[i]);
                boolean rests = true;
                for (int a = 0; a < members; a++) {
                    for (int b = a + 1; b < members; b++) {
                        if (canWork(a, b)) {
                            rests = false;
                            comeTo(stateBehind(queue[i], a, b), reached[queue[i]] + 1);
                        }
                    }
                }
                if (rests && soonest == NONE) {
                    soonest = reached[queue[i]] - 1;
                }
            }
        }

        private void comeTo(int state, int works) {
            waysIn[state]++;
            if (reached[state] == 0 && found < ALL_STATES) {
                reached[state] = works;
                queue[found] = state;
                found++;
            }
        }

        /** AT MOST, behind findAll(): takes each state behind all that lead to it; NONE if some go round. */
        private int mostWorks() {
            int ready = waysIn[queue[0]] == 0 ? 1 : 0;
            int most = 0;
            for (int i = 0; i < ready && i < ALL_STATES; i++) {
                int state = queue[i];
                most = Math.max(most, reached[state] - 1);
                unfold(state);
                for (int a = 0; a < members; a++) {
                    for (int b = a + 1; b < members; b++) {
                        ready += canWork(a, b) && isReadyBehind(state, stateBehind(state, a, b), ready) ? 1 : 0;
                    }
                }
            }
            return ready == found ? most : NONE;
        }

        /** Whether a state waits for no other one now; then it is the next of the queue. */
        private boolean isReadyBehind(int state, int next, int place) {
            reached[next] = Math.max(reached[next], reached[state] + 1);
            waysIn[next]--;
            if (waysIn[next] != 0 || place >= ALL_STATES) {
                return false;
            }
            queue[place] = next;
            return true;
        }

        private void unfold(int state) {
            int rest = state;
            for (int i = 0; i < members; i++) {
                thought[i] = rest % BASE;
                rest /= BASE;
            }
        }

        private boolean canWork(int a, int b) {
            return !town.areKin(member[a], member[b]) && Math.abs(thought[a] - thought[b]) >= gap;
        }

        private int stateBehind(int state, int a, int b) {
            int lesser = thought[a] <= thought[b] ? a : b;
            int greater = a + b - lesser;
            int low = thought[lesser];
            int high = thought[greater];
            int rise = lesserBehind(low, high, ledBy[lesser], ledBy[greater]) - low;
            int fall = high - greaterBehind(low, high, ledBy[lesser], ledBy[greater]);
            return state + rise * weight(lesser) - fall * weight(greater);
        }

        private static int weight(int place) {
            int weight = 1;
            for (int i = 0; i < place; i++) {
                weight *= BASE;
            }
            return weight;
        }
    }
}
