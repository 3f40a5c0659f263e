import java.util.Arrays;

/** A house that writes a story week by week. The words in capitals are the document's. */
public final class ToBeContinued {
    public static final int NONE = -1, FULL = -2, UNABLE = -3, SPENT = -4, HOLDS = 9999;
    public static final int NOTHING = -11, CAST = -12, PLACE = -13, SIZE = -14, THROWN = -15;

    private static final int MOST_PEOPLE = 12, MOST_SETS = 8, MOST_SECRETS = 24;
    private static final int MOST_SCENES = 100, MOST_ACTS = 6, MOST_MINUTES = 15, LAST_WEEK = 26;
    private static final int THREAD_COUNT = 3, MOST_TURNS = 5, MOST_GAP = 6, WEEKS_AT_FIRST = 12, MOST_LETTERS = 9999;
    private static final int MOST_DAYS = 6, BLOCK_SCENES = 8, BLOCK_MINUTES = 200, PARTS = 5;
    private static final int TAPE_COUNT = 6, MOST_ELEMENTS = 64;
    private static final int EMPTY = 0, BYTES = 1, SHORTS = 2, INTS = 3, LONGS = 4, SCRIPT = 5;
    private static final int LEARN = 0, TELL = 1, USE = 2, DIE = 3, RETURN = 4, LOOK = 5;
    private static final int NOT_THERE = 2, IS_DEAD = 1, NOT_DEAD = 6, NOT_LET = 5, NOT_KNOWN = 3, KNOWN = 4;
    private static final int NOBODY = -2, BY_BIBLE = -2, NOT_AT_ALL = -3;
    private static final int FAULTY = -100;
    private static final int ENDLESS = 1000000000;

    private final Script script = new Script();
    private final Threads threads = new Threads();
    private final Story story = new Story(threads, script);
    private final Laying laying = new Laying(threads);
    private final Block block = new Block();
    private final Planner planner = new Planner(block);
    private final Cutting cutting = new Cutting();
    private final Tape[] tapes = new Tape[TAPE_COUNT];
    private int refusals;

    public ToBeContinued() {
        for (int d = 0; d < TAPE_COUNT; d++) {
            tapes[d] = new Tape();
        }
        begin(4, 2, 4);
    }

    public int begin(int people, int sets, int secrets) {
        if (!within(people, 1, MOST_PEOPLE) || !within(sets, 1, MOST_SETS) || !within(secrets, 1, MOST_SECRETS)) {
            return NONE;
        }
        script.empty(people, sets, secrets);
        threads.reset();
        forgetPlans();
        refusals = 0;
        return 0;
    }

    public int bible(int person, int secret) {
        if (!script.hasPerson(person) || !script.hasSecret(secret)) {
            return NONE;
        }
        script.bible[person] ^= 1 << secret;
        return script.bible[person] >> secret & 1;
    }

    public int scene(int week, int set, int minutes, int people, int hook) {
        if (!isWeek(week) || !within(set, 0, script.sets - 1) || !within(minutes, 1, MOST_MINUTES)
                || !script.hasPeople(people) || !within(hook, 0, 1)) {
            return NONE;
        }
        if (script.told >= MOST_SCENES) {
            return FULL;
        }
        return script.tellScene(week, set, minutes, people, hook);
    }

    public int act(int scene, int kind, int p, int s, int q) {
        if (!script.hasScene(scene) || !within(kind, LEARN, LOOK) || !script.hasPerson(p)) {
            return NONE;
        }
        boolean secretIsWell = kind <= USE ? script.hasSecret(s) : s == -1;
        boolean hearerIsWell = kind == TELL ? script.hasPerson(q) : q == -1;
        if (!secretIsWell || !hearerIsWell) {
            return NONE;
        }
        if (script.acts[scene] >= MOST_ACTS) {
            return FULL;
        }
        return script.addAct(scene, packed(kind, p, s, q));
    }

    public int bare(int scene) {
        if (!script.hasScene(scene)) {
            return NONE;
        }
        int had = script.acts[scene];
        script.acts[scene] = 0;
        return had;
    }

    public int drop(int scene) {
        if (!within(scene, 0, script.told - 1)) {
            return NONE;
        }
        script.dropped[scene] ^= 1;
        return script.dropped[scene];
    }

    public int move(int scene, int week) {
        if (!script.hasScene(scene) || !isWeek(week)) {
            return NONE;
        }
        int had = script.week[scene];
        script.week[scene] = week;
        return had;
    }

    public int told(int scene, int what) {
        if (!within(scene, 0, script.told - 1)) {
            return NONE;
        }
        switch (what) {
            case 0: return script.week[scene];
            case 1: return script.set[scene];
            case 2: return script.minutes[scene];
            case 3: return script.cast[scene];
            case 4: return script.hook[scene];
            case 5: return script.acts[scene];
            case 6: return script.dropped[scene];
            default: return NONE;
        }
    }

    public int aired(int i) {
        int n = story.open(script);
        return within(i, 0, n - 1) ? story.order[i] : NONE;
    }

    public int faults() {
        return story.playAll(script);
    }

    public int fault(int i, int what) {
        if (i < 0 || !within(what, 0, 3)) {
            return NONE;
        }
        return story.playForFault(script, i) ? story.foundFault[what] : NONE;
    }

    public int since(int person, int secret) {
        if (!script.hasPerson(person) || !script.hasSecret(secret)) {
            return NONE;
        }
        story.playAll(script);
        return story.bySceneOf[person * MOST_SECRETS + secret];
    }

    public int teller(int person, int secret) {
        if (!script.hasPerson(person) || !script.hasSecret(secret)) {
            return NONE;
        }
        story.playAll(script);
        return story.byWhom[person * MOST_SECRETS + secret];
    }

    public int tellings(int person, int secret) {
        if (!script.hasPerson(person) || !script.hasSecret(secret)) {
            return NONE;
        }
        story.playAll(script);
        return story.steps[person * MOST_SECRETS + secret];
    }

    public int shown(int secret) {
        if (!script.hasSecret(secret)) {
            return NONE;
        }
        story.playAll(script);
        return story.firstShown[secret];
    }

    public int stands(int scene, int person, int what) {
        if (!script.hasScene(scene) || !script.hasPerson(person) || !within(what, 0, 2)) {
            return NONE;
        }
        story.playUpTo(script, scene);
        if (what == 0) {
            return story.dead >> person & 1;
        }
        return what == 1 ? story.look[person] : Integer.bitCount(story.knows[person]);
    }

    public int rule(int person, int d) {
        if (!script.hasPerson(person) || !isTape(d)) {
            return NONE;
        }
        int refusal = refusalUnlessHeld(d, BYTES);
        if (refusal != 0) {
            return refusal;
        }
        Tape tape = tapes[d];
        int place = Orders.firstFault(tape, script);
        if (place >= 0) {
            return FAULTY - place;
        }
        int orders = Orders.howMany(tape);
        if (orders > Orders.MOST) {
            return FULL;
        }
        script.setRule(person, tape, orders);
        return orders;
    }

    public int unrule(int person) {
        if (!script.hasPerson(person)) {
            return NONE;
        }
        int had = script.ruleOrders[person];
        script.ruleOrders[person] = 0;
        return had;
    }

    public int letters(int thread, int week, int n) {
        if (!isThread(thread) || !isWeek(week) || !within(n, 0, MOST_LETTERS)) {
            return NONE;
        }
        int i = thread * (LAST_WEEK + 1) + week;
        int had = threads.letters[i];
        threads.letters[i] = n;
        return had;
    }

    public int heat(int thread, int week) {
        return isThread(thread) && isWeek(week) ? threads.heatIn(thread, week) : NONE;
    }

    public int turn(int thread, int minutes, int people, int first, int last) {
        if (!isThread(thread) || !within(minutes, 1, MOST_MINUTES) || !script.hasPeople(people)
                || !isWeek(first) || !isWeek(last) || first > last) {
            return NONE;
        }
        if (threads.turns[thread] >= MOST_TURNS) {
            return FULL;
        }
        return threads.addTurn(thread, minutes, people, first, last);
    }

    public int unturn(int thread) {
        if (!isThread(thread)) {
            return NONE;
        }
        int had = threads.turns[thread];
        threads.turns[thread] = 0;
        return had;
    }

    public int gap(int thread, int least, int most) {
        if (!isThread(thread) || !within(least, 1, MOST_GAP) || !within(most, least, MOST_GAP)) {
            return NONE;
        }
        threads.least[thread] = least;
        threads.most[thread] = most;
        return 0;
    }

    public int away(int person, int week) {
        if (!script.hasPerson(person) || !isWeek(week)) {
            return NONE;
        }
        threads.awayIn[week] ^= 1 << person;
        return threads.awayIn[week] >> person & 1;
    }

    public int weeks(int w) {
        if (!isWeek(w)) {
            return NONE;
        }
        int had = threads.weeks;
        threads.weeks = w;
        return had;
    }

    public int lay() {
        return laying.findBest(script);
    }

    public int laid(int thread, int k) {
        return isThread(thread) ? laying.keptWeek(thread, k) : NONE;
    }

    public int judge(int d) {
        if (!isTape(d)) {
            return NONE;
        }
        int refusal = refusalUnlessHeld(d, SHORTS);
        if (refusal != 0) {
            return refusal;
        }
        return counted(laying.judgement(tapes[d], script));
    }

    public int off(int person, int day) {
        if (!script.hasPerson(person) || !within(day, 0, MOST_DAYS - 1)) {
            return NONE;
        }
        block.offOn[day] ^= 1 << person;
        return block.offOn[day] >> person & 1;
    }

    public int block(int a, int b, int days, int minutes, int sets) {
        if (!isWeek(a) || !within(b, a, LAST_WEEK) || !within(days, 1, MOST_DAYS)
                || !within(minutes, 1, BLOCK_MINUTES) || !within(sets, 1, MOST_SETS)) {
            return NONE;
        }
        int n = script.scenesBetween(a, b);
        if (n > BLOCK_SCENES) {
            return SPENT;
        }
        block.setTo(a, b, days, minutes, sets);
        return n;
    }

    public int plan() {
        int refusal = refusalOfBlock();
        if (refusal != 0) {
            return refusal;
        }
        block.gather(script, story);
        return planner.findBest(script);
    }

    public int taped(int i, int what) {
        if (!within(i, 0, planner.keptCount - 1) || !within(what, 0, 1)) {
            return NONE;
        }
        return what == 0 ? planner.keptScene[i] : planner.keptDay[i];
    }

    public int proof(int d) {
        if (!isTape(d)) {
            return NONE;
        }
        int refusal = refusalOfBlock();
        if (refusal == 0) {
            refusal = refusalUnlessHeld(d, BYTES);
        }
        if (refusal != 0) {
            return refusal;
        }
        block.gather(script, story);
        return counted(block.judgement(tapes[d], script));
    }

    public int cut(int week) {
        return isWeek(week) ? cutting.leastGreatest(script, week) : NONE;
    }

    public int part(int week, int e) {
        if (!isWeek(week) || !within(e, 0, PARTS - 1)) {
            return NONE;
        }
        int greatest = cutting.leastGreatest(script, week);
        return greatest == UNABLE ? UNABLE : cutting.lastSceneOf(e, greatest);
    }

    public int leave(int person, int week) {
        return script.hasPerson(person) && isWeek(week) ? story.harmOf(script, person, week) : NONE;
    }

    public int tape(int d, int sort, int n) {
        if (!isTape(d) || !within(sort, BYTES, LONGS) || n > MOST_ELEMENTS) {
            return NONE;
        }
        if (n < 0) {
            return counted(SIZE);
        }
        tapes[d].holdRow(sort, n);
        return n;
    }

    public int keep(int d) {
        if (!isTape(d)) {
            return NONE;
        }
        tapes[d].holdScript(script);
        return script.told;
    }

    public int back(int d) {
        if (!isTape(d)) {
            return NONE;
        }
        Script kept = tapes[d].heldScript();
        if (kept == null) {
            return refusalOfOther(tapes[d]);
        }
        script.takeFrom(kept);
        threads.forgetTurns();
        forgetPlans();
        return script.told;
    }

    public int toss(int d) {
        if (!isTape(d)) {
            return NONE;
        }
        Script kept = tapes[d].heldScript();
        if (kept == null) {
            return refusalOfOther(tapes[d]);
        }
        int failure = story.playAll(kept);
        return failure == 0 ? counted(THROWN) : failure;
    }

    public int clear(int d) {
        if (!isTape(d)) {
            return NONE;
        }
        int held = tapes[d].sort;
        tapes[d].sort = EMPTY;
        return held;
    }

    public int put(int d, int i, long v) {
        if (!isTape(d)) {
            return NONE;
        }
        Tape tape = tapes[d];
        if (!tape.holdsRow()) {
            return refusalOfOther(tape);
        }
        if (!within(i, 0, tape.size - 1)) {
            return counted(PLACE);
        }
        tape.row[i] = tape.narrowed(v);
        return 1;
    }

    public long at(int d, int i) throws IllegalArgumentException, IllegalStateException {
        if (!isTape(d)) {
            throw new IllegalArgumentException("no such tape");
        }
        Tape tape = tapes[d];
        if (!tape.holdsRow() || !within(i, 0, tape.size - 1)) {
            throw new IllegalStateException("no row, or no such place in it");
        }
        return tape.row[i];
    }

    public int copy(int d, int i, int e, int j, int n) {
        if (!isTape(d) || !isTape(e)) {
            return NONE;
        }
        Tape from = tapes[d];
        Tape to = tapes[e];
        if (from.sort == EMPTY || to.sort == EMPTY) {
            return counted(NOTHING);
        }
        if (!from.holdsRow() || from.sort != to.sort) {
            return counted(CAST);
        }
        if (!from.hasPlaces(i, n) || !to.hasPlaces(j, n)) {
            return counted(PLACE);
        }
        System.arraycopy(from.row, i, to.row, j, n);
        return n;
    }

    public int count(int what) {
        switch (what) {
            case 0: return script.people;
            case 1: return script.sets;
            case 2: return script.secrets;
            case 3: return script.told;
            case 4: return script.scenesBetween(1, LAST_WEEK);
            case 5: return script.howManyRules();
            case 6: return threads.weeks;
            case 7: return refusals;
            default: return within(what, 10, 9 + THREAD_COUNT) ? threads.turns[what - 10] : NONE;
        }
    }

    private void forgetPlans() {
        block.forget();
        planner.forget();
        laying.forget();
    }

    private int refusalOfBlock() {
        if (!block.isTold()) {
            return NONE;
        }
        return script.scenesBetween(block.firstWeek, block.lastWeek) > BLOCK_SCENES ? SPENT : 0;
    }

    private int refusalUnlessHeld(int d, int sort) {
        return tapes[d].sort == sort ? 0 : refusalOfOther(tapes[d]);
    }

    /** Refuses a TAPE that doesn't hold what is wanted. */
    private int refusalOfOther(Tape tape) {
        return counted(tape.sort == EMPTY ? NOTHING : CAST);
    }

    /** Every answer that may be a refusal of the host's goes through here, so that count() knows of it. */
    private int counted(int answer) {
        if (within(answer, THROWN, NOTHING)) {
            refusals++;
        }
        return answer;
    }

    private static boolean within(int n, int least, int most) {
        return n >= least && n <= most;
    }

    private static boolean isWeek(int week) {
        return within(week, 1, LAST_WEEK);
    }

    private static boolean isThread(int thread) {
        return within(thread, 0, THREAD_COUNT - 1);
    }

    private static boolean isTape(int d) {
        return within(d, 0, TAPE_COUNT - 1);
    }

    private static int packed(int kind, int p, int s, int q) {
        return kind | p << 3 | s + 1 << 7 | q + 1 << 12;
    }

    private static int kindOf(int act) {
        return act & 7;
    }

    private static int personOf(int act) {
        return act >> 3 & 15;
    }

    private static int secretOf(int act) {
        return (act >> 7 & 31) - 1;
    }

    private static int hearerOf(int act) {
        return (act >> 12 & 15) - 1;
    }

    /** The PEOPLE that an ACT names, as a mask. */
    private static int namedBy(int act) {
        int p = 1 << personOf(act);
        return kindOf(act) == TELL ? p | 1 << hearerOf(act) : p;
    }

    /** All that a COPY holds: P, S, K, SCENES, BIBLE and RULES. */
    private static final class Script {
        int people;
        int sets;
        int secrets;
        int told;
        final int[] week = new int[MOST_SCENES];
        final int[] set = new int[MOST_SCENES];
        final int[] minutes = new int[MOST_SCENES];
        final int[] cast = new int[MOST_SCENES];
        final int[] hook = new int[MOST_SCENES];
        final int[] dropped = new int[MOST_SCENES];
        final int[] acts = new int[MOST_SCENES];
        final int[] act = new int[MOST_SCENES * MOST_ACTS];
        final int[] bible = new int[MOST_PEOPLE];
        final int[] ruleOrders = new int[MOST_PEOPLE];
        final byte[] rules = new byte[MOST_PEOPLE * MOST_ELEMENTS];

        void empty(int withPeople, int withSets, int withSecrets) {
            people = withPeople;
            sets = withSets;
            secrets = withSecrets;
            told = 0;
            Arrays.fill(bible, 0);
            Arrays.fill(ruleOrders, 0);
        }

        void takeFrom(Script other) {
            people = other.people;
            sets = other.sets;
            secrets = other.secrets;
            told = other.told;
            System.arraycopy(other.week, 0, week, 0, told);
            System.arraycopy(other.set, 0, set, 0, told);
            System.arraycopy(other.minutes, 0, minutes, 0, told);
            System.arraycopy(other.cast, 0, cast, 0, told);
            System.arraycopy(other.hook, 0, hook, 0, told);
            System.arraycopy(other.dropped, 0, dropped, 0, told);
            System.arraycopy(other.acts, 0, acts, 0, told);
            System.arraycopy(other.act, 0, act, 0, told * MOST_ACTS);
            System.arraycopy(other.bible, 0, bible, 0, MOST_PEOPLE);
            System.arraycopy(other.ruleOrders, 0, ruleOrders, 0, MOST_PEOPLE);
            System.arraycopy(other.rules, 0, rules, 0, MOST_PEOPLE * MOST_ELEMENTS);
        }

        boolean hasPerson(int person) {
            return within(person, 0, people - 1);
        }

        boolean hasPeople(int mask) {
            return mask >= 0 && mask >> people == 0;
        }

        boolean hasSecret(int secret) {
            return within(secret, 0, secrets - 1);
        }

        boolean hasScene(int scene) {
            return within(scene, 0, told - 1) && dropped[scene] == 0;
        }

        int tellScene(int inWeek, int onSet, int ofMinutes, int withPeople, int asHook) {
            week[told] = inWeek;
            set[told] = onSet;
            minutes[told] = ofMinutes;
            cast[told] = withPeople;
            hook[told] = asHook;
            dropped[told] = 0;
            acts[told] = 0;
            return told++;
        }

        int addAct(int scene, int packedAct) {
            act[scene * MOST_ACTS + acts[scene]] = packedAct;
            acts[scene]++;
            return acts[scene];
        }

        int scenesBetween(int a, int b) {
            int n = 0;
            for (int scene = 0; scene < told; scene++) {
                if (dropped[scene] == 0 && within(week[scene], a, b)) {
                    n++;
                }
            }
            return n;
        }

        /** Puts the MINUTES of each WEEK's SCENES into a row with a place for each WEEK. */
        void loadInto(int[] load) {
            Arrays.fill(load, 0);
            for (int scene = 0; scene < told; scene++) {
                if (dropped[scene] == 0) {
                    load[week[scene]] += minutes[scene];
                }
            }
        }

        void setRule(int person, Tape tape, int orders) {
            for (int i = 0; i < tape.size; i++) {
                rules[person * MOST_ELEMENTS + i] = (byte) tape.row[i];
            }
            ruleOrders[person] = orders;
        }

        int howManyRules() {
            int n = 0;
            for (int person = 0; person < people; person++) {
                if (ruleOrders[person] > 0) {
                    n++;
                }
            }
            return n;
        }
    }

    /** The small language of the RULES. */
    private static final class Orders {
        static final int END = 0, KNOWS = 1, DEAD = 2, HOT = 3, WEEK = 4, BOTH = 5, EITHER = 6, NOT = 7;
        static final int MOST = 40, DEEPEST = 8, WELL = -1;
        private static final int[] LENGTH = {1, 3, 2, 3, 2, 1, 1, 1};
        private static final int[] TAKES = {0, 0, 0, 0, 0, 2, 2, 1};

        static int lengthOf(int code) {
            return within(code, END, NOT) ? LENGTH[code] : 1;
        }

        /** How many of the stack an ORDER takes; it gives one back. */
        static int takenBy(int code) {
            return within(code, END, NOT) ? TAKES[code] : 0;
        }

        /** The FIRST FAULT of a row of bytes, or WELL. */
        static int firstFault(Tape tape, Script script) {
            int depth = 0;
            for (int i = 0; i < tape.size; i += lengthOf((int) tape.row[i])) {
                int code = (int) tape.row[i];
                if (code == END) {
                    return depth == 1 ? WELL : i;
                }
                if (!within(code, KNOWS, NOT) || i + lengthOf(code) > tape.size || !namesWell(tape, i, script)) {
                    return i;
                }
                int left = depth - takenBy(code);
                if (left < 0 || left >= DEEPEST) {
                    return i;
                }
                depth = left + 1;
            }
            return tape.size;
        }

        private static boolean namesWell(Tape tape, int i, Script script) {
            switch ((int) tape.row[i]) {
                case KNOWS:
                    return script.hasPerson((int) tape.row[i + 1]) && script.hasSecret((int) tape.row[i + 2]);
                case DEAD:
                    return script.hasPerson((int) tape.row[i + 1]);
                case HOT:
                    return isThread((int) tape.row[i + 1]);
                default:
                    return true;
            }
        }

        /** The ORDERS ahead of the 0 in a row that has no fault. */
        static int howMany(Tape tape) {
            int n = 0;
            for (int i = 0; i < tape.size && tape.row[i] != END; i += lengthOf((int) tape.row[i])) {
                n++;
            }
            return n;
        }
    }

    /** THE STORY, gone through SCENE by SCENE; what it found stays until it is opened again. */
    private static final class Story {
        private final Threads threads;
        private Script script;
        private int leaver;
        private int leavingWeek;
        private int faultsFound;
        private int faultWanted;
        final int[] foundFault = new int[4];
        final int[] order = new int[MOST_SCENES];
        private final int[] nextPlace = new int[LAST_WEEK + 2];
        int dead;
        final int[] knows = new int[MOST_PEOPLE];
        final int[] look = new int[MOST_PEOPLE];
        final int[] bySceneOf = new int[MOST_PEOPLE * MOST_SECRETS];
        final int[] byWhom = new int[MOST_PEOPLE * MOST_SECRETS];
        final int[] steps = new int[MOST_PEOPLE * MOST_SECRETS];
        final int[] firstShown = new int[MOST_SECRETS];
        private final int[] done = new int[MOST_SCENES];
        private final int[] doneBefore = new int[MOST_SCENES];

        Story(Threads threads, Script script) {
            this.threads = threads;
            this.script = script;
        }

        /** Goes to the beginning: how many SCENES are in AIR ORDER. */
        int open(Script of) {
            script = of;
            leaver = -1;
            faultWanted = -1;
            faultsFound = 0;
            dead = 0;
            Arrays.fill(look, 0);
            Arrays.fill(firstShown, NOT_AT_ALL);
            Arrays.fill(done, 0);
            openBible();
            return putInAirOrder();
        }

        private void openBible() {
            for (int person = 0; person < script.people; person++) {
                knows[person] = script.bible[person];
                for (int secret = 0; secret < script.secrets; secret++) {
                    boolean known = (knows[person] >> secret & 1) == 1;
                    int i = person * MOST_SECRETS + secret;
                    bySceneOf[i] = known ? BY_BIBLE : NOT_AT_ALL;
                    byWhom[i] = known ? NOBODY : NOT_AT_ALL;
                    steps[i] = known ? 0 : NOT_AT_ALL;
                }
            }
        }

        private int putInAirOrder() {
            Arrays.fill(nextPlace, 0);
            int n = 0;
            for (int scene = 0; scene < script.told; scene++) {
                if (script.dropped[scene] == 0) {
                    nextPlace[script.week[scene] + 1]++;
                    n++;
                }
            }
            for (int week = 1; week <= LAST_WEEK; week++) {
                nextPlace[week] += nextPlace[week - 1];
            }
            for (int scene = 0; scene < script.told; scene++) {
                if (script.dropped[scene] == 0) {
                    order[nextPlace[script.week[scene]]++] = scene;
                }
            }
            return n;
        }

        /** Goes through the whole of it: how many FAULTS it has. */
        int playAll(Script of) {
            playFirst(open(of));
            return faultsFound;
        }

        private void playFirst(int n) {
            for (int i = 0; i < n; i++) {
                play(order[i]);
            }
        }

        boolean playForFault(Script of, int wanted) {
            int n = open(of);
            faultWanted = wanted;
            playFirst(n);
            return wanted < faultsFound;
        }

        void playUpTo(Script of, int scene) {
            int n = open(of);
            for (int i = 0; i < n && order[i] != scene; i++) {
                play(order[i]);
            }
        }

        int harmOf(Script of, int person, int week) {
            playFirst(open(of));
            System.arraycopy(done, 0, doneBefore, 0, MOST_SCENES);
            int n = open(of);
            leaver = person;
            leavingWeek = week;
            playFirst(n);
            int harm = 0;
            for (int scene = 0; scene < MOST_SCENES; scene++) {
                harm += Integer.bitCount(doneBefore[scene] & ~done[scene]);
            }
            return harm;
        }

        void play(int scene) {
            int gone = leaver >= 0 && script.week[scene] >= leavingWeek ? 1 << leaver : 0;
            int cast = script.cast[scene] & ~gone;
            noteTheDead(scene, cast);
            for (int a = 0; a < script.acts[scene]; a++) {
                int act = script.act[scene * MOST_ACTS + a];
                if ((namedBy(act) & gone) != 0) {
                    continue;
                }
                int which = faultOf(script.week[scene], act, cast);
                if (which == 0) {
                    done[scene] |= 1 << a;
                    perform(scene, act);
                } else {
                    note(scene, a, which, personOf(act));
                }
            }
        }

        private void noteTheDead(int scene, int cast) {
            int wrong = cast & dead;
            for (int a = 0; wrong != 0 && a < script.acts[scene]; a++) {
                int act = script.act[scene * MOST_ACTS + a];
                if (kindOf(act) == RETURN) {
                    wrong &= ~namedBy(act);
                }
            }
            for (int person = 0; wrong != 0 && person < script.people; person++) {
                if ((wrong >> person & 1) == 1) {
                    note(scene, -1, IS_DEAD, person);
                }
            }
        }

        private void note(int scene, int a, int which, int person) {
            if (faultsFound == faultWanted) {
                foundFault[0] = scene;
                foundFault[1] = a;
                foundFault[2] = which;
                foundFault[3] = person;
            }
            faultsFound++;
        }

        /** Which FAULT an ACT is, or 0. */
        private int faultOf(int week, int act, int cast) {
            int kind = kindOf(act);
            int p = personOf(act);
            int named = namedBy(act);
            if ((named & ~cast) != 0) {
                return NOT_THERE;
            }
            if (kind == RETURN) {
                if ((named & dead) == 0) {
                    return NOT_DEAD;
                }
                return ruleLets(p, week) ? 0 : NOT_LET;
            }
            if ((named & dead) != 0) {
                return IS_DEAD;
            }
            int s = secretOf(act);
            if ((kind == TELL || kind == USE) && !isKnown(p, s)) {
                return NOT_KNOWN;
            }
            // Who tells it to themselves knows it already, so q being p needs no question of its own.
            boolean stale = kind == LEARN && isKnown(p, s) || kind == TELL && isKnown(hearerOf(act), s);
            return stale ? KNOWN : 0;
        }

        private boolean isKnown(int person, int secret) {
            return (knows[person] >> secret & 1) == 1;
        }

        private void perform(int scene, int act) {
            int p = personOf(act);
            int s = secretOf(act);
            switch (kindOf(act)) {
                case LEARN: learn(p, s, scene, NOBODY, 0); break;
                case TELL: learn(hearerOf(act), s, scene, p, steps[p * MOST_SECRETS + s] + 1); break;
                case DIE: dead |= 1 << p; break;
                case RETURN: dead &= ~(1 << p); break;
                case LOOK: look[p]++; break;
                default: break;
            }
            if (s >= 0 && firstShown[s] == NOT_AT_ALL) {
                firstShown[s] = scene;
            }
        }

        private void learn(int person, int secret, int scene, int from, int far) {
            knows[person] |= 1 << secret;
            int i = person * MOST_SECRETS + secret;
            bySceneOf[i] = scene;
            byWhom[i] = from;
            steps[i] = far;
        }

        /** Works a PERSON's RULE, in which rule() found no fault; the stack is a row of bits, the last one lowest. */
        private boolean ruleLets(int person, int week) {
            byte[] rules = script.rules;
            int stack = 0;
            int i = person * MOST_ELEMENTS;
            for (int n = script.ruleOrders[person]; n > 0; n--) {
                int code = rules[i];
                boolean holds = false;
                switch (code) {
                    case Orders.KNOWS: holds = isKnown(rules[i + 1], rules[i + 2]); break;
                    case Orders.DEAD: holds = (dead >> rules[i + 1] & 1) == 1; break;
                    case Orders.HOT: holds = threads.heatIn(rules[i + 1], week) >= rules[i + 2]; break;
                    case Orders.WEEK: holds = week >= rules[i + 1]; break;
                    case Orders.BOTH: holds = (stack & 3) == 3; break;
                    case Orders.EITHER: holds = (stack & 3) != 0; break;
                    default: holds = (stack & 1) == 0; break;
                }
                stack = stack >> Orders.takenBy(code) << 1 | (holds ? 1 : 0);
                i += Orders.lengthOf(code);
            }
            return (stack & 1) == 1;
        }
    }

    /** LETTERS, TURNS, GAPS, who is AWAY, and W. */
    private static final class Threads {
        int weeks;
        final int[] letters = new int[THREAD_COUNT * (LAST_WEEK + 1)];
        final int[] turns = new int[THREAD_COUNT];
        final int[] minutes = new int[THREAD_COUNT * MOST_TURNS];
        private final int[] people = new int[THREAD_COUNT * MOST_TURNS];
        private final int[] first = new int[THREAD_COUNT * MOST_TURNS];
        private final int[] last = new int[THREAD_COUNT * MOST_TURNS];
        final int[] least = new int[THREAD_COUNT];
        final int[] most = new int[THREAD_COUNT];
        final int[] awayIn = new int[LAST_WEEK + 1];

        void reset() {
            weeks = WEEKS_AT_FIRST;
            Arrays.fill(letters, 0);
            Arrays.fill(least, 1);
            Arrays.fill(most, MOST_GAP);
            forgetTurns();
        }

        void forgetTurns() {
            Arrays.fill(turns, 0);
            Arrays.fill(awayIn, 0);
        }

        int addTurn(int thread, int ofMinutes, int withPeople, int fromWeek, int toWeek) {
            int i = thread * MOST_TURNS + turns[thread];
            minutes[i] = ofMinutes;
            people[i] = withPeople;
            first[i] = fromWeek;
            last[i] = toWeek;
            turns[thread]++;
            return turns[thread];
        }

        int heatIn(int thread, int week) {
            int heat = 0;
            for (int w = 1; w < week; w++) {
                heat = heat * 3 / 4 + letters[thread * (LAST_WEEK + 1) + w];
            }
            return heat;
        }

        /** Whether a TURN, by its number among all, may come in a WEEK by itself. */
        boolean mayCome(int i, int week) {
            return within(week, 1, weeks) && within(week, first[i], last[i]) && (people[i] & awayIn[week]) == 0;
        }
    }

    /** Finds, keeps and judges LAYINGS. */
    private static final class Laying {
        // A THREAD stands in one of 26 ways: no TURN laid, all laid, or 1 .. 4 laid and the last 1 .. 6 WEEKS ago.
        private static final int WAYS = 26;
        private final Threads threads;
        private final int[] load = new int[LAST_WEEK + 1];
        private final int[] sum = new int[LAST_WEEK + 1];
        private final int[] open = new int[THREAD_COUNT * MOST_TURNS];
        private final int[] weekOf = new int[THREAD_COUNT * MOST_TURNS];
        private final int[] laidSoFar = new int[THREAD_COUNT];
        private final int[] ways = new int[THREAD_COUNT];
        private final int[] keptWeeks = new int[THREAD_COUNT * MOST_TURNS];
        private final int[] keptTurns = new int[THREAD_COUNT];
        private long[] hopeless = null;
        private int limit;

        Laying(Threads threads) {
            this.threads = threads;
        }

        void forget() {
            Arrays.fill(keptTurns, 0);
        }

        int keptWeek(int thread, int k) {
            return within(k, 0, keptTurns[thread] - 1) ? keptWeeks[thread * MOST_TURNS + k] : NONE;
        }

        int findBest(Script script) {
            forget();
            script.loadInto(load);
            if (!search(ENDLESS)) {
                return UNABLE;
            }
            int best = keepFound();
            int low = leastThinkable();
            // The first found under a limit is the first of all by the masks that are no heavier than it is.
            for (int tries = 0; low < best && tries < 64; tries++) {
                int middle = tries == 0 ? low : (low + best) / 2;
                if (search(middle)) {
                    best = keepFound();
                } else {
                    low = middle + 1;
                }
            }
            return best;
        }

        private int leastThinkable() {
            int least = 0;
            for (int week = 1; week <= threads.weeks; week++) {
                least = Math.max(least, load[week]);
            }
            return least;
        }

        private int keepFound() {
            System.arraycopy(weekOf, 0, keptWeeks, 0, keptWeeks.length);
            System.arraycopy(threads.turns, 0, keptTurns, 0, THREAD_COUNT);
            return greatestLoad();
        }

        /** The greatest LOAD by the SCENES' load and the WEEKS in weekOf. */
        private int greatestLoad() {
            System.arraycopy(load, 0, sum, 0, LAST_WEEK + 1);
            int greatest = leastThinkable();
            for (int t = 0; t < THREAD_COUNT; t++) {
                for (int i = t * MOST_TURNS; i < t * MOST_TURNS + threads.turns[t]; i++) {
                    sum[weekOf[i]] += threads.minutes[i];
                    greatest = Math.max(greatest, sum[weekOf[i]]);
                }
            }
            return greatest;
        }

        /** Looks for the first LAYING by the masks whose LOADS stay within a limit. */
        private boolean search(int heaviest) {
            limit = heaviest;
            int states = threads.weeks;
            for (int t = 0; t < THREAD_COUNT; t++) {
                laidSoFar[t] = 0;
                int turns = threads.turns[t];
                ways[t] = turns == 0 ? 1 : 2 + (turns - 1) * MOST_GAP;
                states *= ways[t];
                openWeeks(t);
                if (turns > 0 && open[t * MOST_TURNS] == 0) {
                    return false;
                }
            }
            if (hopeless == null) {
                hopeless = new long[LAST_WEEK * WAYS * WAYS * WAYS / 64 + 1];
            }
            for (int i = 0; i <= states >> 6; i++) {
                hopeless[i] = 0L;
            }
            return layFrom(1);
        }

        /** For each TURN the WEEKS (as bits) in which it may come and all TURNS behind it still find theirs. */
        private void openWeeks(int t) {
            int behind = 0;
            for (int k = threads.turns[t] - 1; k >= 0; k--) {
                int i = t * MOST_TURNS + k;
                int bits = 0;
                for (int week = 1; week <= threads.weeks; week++) {
                    if (threads.mayCome(i, week) && load[week] <= limit - threads.minutes[i]) {
                        bits |= 1 << week;
                    }
                }
                if (k < threads.turns[t] - 1) {
                    bits &= aGapAhead(t, behind);
                }
                open[i] = bits;
                behind = bits;
            }
        }

        private int aGapAhead(int t, int weeks) {
            int bits = 0;
            for (int gap = threads.least[t]; gap <= threads.most[t]; gap++) {
                bits |= weeks >> gap;
            }
            return bits;
        }

        private boolean layFrom(int week) {
            if (week > threads.weeks) {
                return true;
            }
            int state = stateIn(week);
            if ((hopeless[state >> 6] >> (state & 63) & 1L) == 1L) {
                return false;
            }
            int may = 0;
            int must = 0;
            for (int t = 0; t < THREAD_COUNT; t++) {
                if (laidSoFar[t] < threads.turns[t]) {
                    int fromNow = weeksForNext(t) >> week;
                    may |= (fromNow & 1) << t;
                    must |= fromNow <= 1 ? 1 << t : 0;
                }
            }
            for (int mask = must; mask <= may; mask++) {
                if ((mask & ~may) == 0 && (must & ~mask) == 0 && load[week] <= limit - minutesOfNext(mask)) {
                    layNext(mask, week);
                    if (layFrom(week + 1)) {
                        return true;
                    }
                    takeLast(mask);
                }
            }
            hopeless[state >> 6] |= 1L << (state & 63);
            return false;
        }

        private int stateIn(int week) {
            int state = week - 1;
            for (int t = 0; t < THREAD_COUNT; t++) {
                int k = laidSoFar[t];
                int way = 0;
                if (k > 0) {
                    int ago = week - weekOf[t * MOST_TURNS + k - 1];
                    way = k == threads.turns[t] ? 1 : 2 + (k - 1) * MOST_GAP + ago - 1;
                }
                state = state * ways[t] + way;
            }
            return state;
        }

        /** The WEEKS (as bits) in which a THREAD's next TURN may come. */
        private int weeksForNext(int t) {
            int i = t * MOST_TURNS + laidSoFar[t];
            if (laidSoFar[t] == 0) {
                return open[i];
            }
            int choices = (1 << threads.most[t] - threads.least[t] + 1) - 1;
            return open[i] & choices << weekOf[i - 1] + threads.least[t];
        }

        private int minutesOfNext(int mask) {
            int minutes = 0;
            for (int t = 0; t < THREAD_COUNT; t++) {
                if ((mask >> t & 1) == 1) {
                    minutes += threads.minutes[t * MOST_TURNS + laidSoFar[t]];
                }
            }
            return minutes;
        }

        private void layNext(int mask, int week) {
            for (int t = 0; t < THREAD_COUNT; t++) {
                if ((mask >> t & 1) == 1) {
                    weekOf[t * MOST_TURNS + laidSoFar[t]] = week;
                    laidSoFar[t]++;
                }
            }
        }

        private void takeLast(int mask) {
            for (int t = 0; t < THREAD_COUNT; t++) {
                laidSoFar[t] -= mask >> t & 1;
            }
        }

        /** What judge() answers to a row of WEEKS. */
        int judgement(Tape tape, Script script) {
            int place = 0;
            for (int t = 0; t < THREAD_COUNT; t++) {
                for (int k = 0; k < threads.turns[t]; k++) {
                    if (place >= tape.size) {
                        return PLACE;
                    }
                    int i = t * MOST_TURNS + k;
                    int week = (int) tape.row[place];
                    boolean inGap = k == 0 || within(week - weekOf[i - 1], threads.least[t], threads.most[t]);
                    if (!inGap || !threads.mayCome(i, week)) {
                        return FAULTY - place;
                    }
                    weekOf[i] = week;
                    place++;
                }
            }
            script.loadInto(load);
            return greatestLoad();
        }
    }

    /** The BLOCK that is told, who is OFF, and the BLOCK's SCENES as they are now. */
    private static final class Block {
        int firstWeek;
        int lastWeek;
        int days;
        int minutes;
        int sets;
        final int[] offOn = new int[MOST_DAYS];
        int size;
        final int[] scenes = new int[BLOCK_SCENES];
        // For each SCENE a mask of those whose DAY may not be above its own, by the LOOKS.
        final int[] notAfter = new int[BLOCK_SCENES];
        private final int[] looks = new int[BLOCK_SCENES * MOST_PEOPLE];
        private final int[] dayOf = new int[BLOCK_SCENES];

        void forget() {
            firstWeek = 0;
            Arrays.fill(offOn, 0);
        }

        boolean isTold() {
            return firstWeek > 0;
        }

        void setTo(int a, int b, int withDays, int withMinutes, int withSets) {
            firstWeek = a;
            lastWeek = b;
            days = withDays;
            minutes = withMinutes;
            sets = withSets;
        }

        /** Takes the BLOCK's SCENES (they are known to be few enough) and their LOOKS from THE STORY. */
        void gather(Script script, Story story) {
            size = 0;
            int n = story.open(script);
            for (int i = 0; i < n; i++) {
                int scene = story.order[i];
                if (within(script.week[scene], firstWeek, lastWeek) && size < BLOCK_SCENES) {
                    scenes[size] = scene;
                    System.arraycopy(story.look, 0, looks, size * MOST_PEOPLE, MOST_PEOPLE);
                    notAfter[size] = withLowerLook(script);
                    size++;
                }
                story.play(scene);
            }
        }

        private int withLowerLook(Script script) {
            int lower = 0;
            for (int i = 0; i < size; i++) {
                int both = script.cast[scenes[i]] & script.cast[scenes[size]];
                for (int person = 0; person < script.people; person++) {
                    if ((both >> person & 1) == 1
                            && looks[i * MOST_PEOPLE + person] < looks[size * MOST_PEOPLE + person]) {
                        lower |= 1 << i;
                    }
                }
            }
            return lower;
        }

        /** What proof() answers to a row of DAYS. */
        int judgement(Tape tape, Script script) {
            for (int i = 0; i < size; i++) {
                if (i >= tape.size) {
                    return PLACE;
                }
                dayOf[i] = (int) tape.row[i];
                if (!within(dayOf[i], 0, days - 1) || !isWell(i, script)) {
                    return FAULTY - i;
                }
            }
            int cost = 0;
            for (int day = 0; day < days; day++) {
                cost += Integer.bitCount(castOn(day, script));
            }
            return cost;
        }

        /** Whether the i-th SCENE's DAY is well beside those ahead of it, which are well. */
        private boolean isWell(int i, Script script) {
            int day = dayOf[i];
            int onDay = 0;
            int setsOnDay = 0;
            for (int j = 0; j <= i; j++) {
                // A SET is used on two DAYS at most, and they touch: it STANDS just where it is used.
                if (dayOf[j] == day) {
                    onDay += script.minutes[scenes[j]];
                    setsOnDay |= 1 << script.set[scenes[j]];
                }
                boolean sameSet = script.set[scenes[j]] == script.set[scenes[i]];
                if (sameSet && Math.abs(dayOf[j] - day) > 1) {
                    return false;
                }
                if ((notAfter[i] >> j & 1) == 1 && dayOf[j] > day) {
                    return false;
                }
            }
            boolean allThere = (script.cast[scenes[i]] & offOn[day]) == 0;
            return allThere && onDay <= minutes && Integer.bitCount(setsOnDay) <= sets;
        }

        private int castOn(int day, Script script) {
            int cast = 0;
            for (int i = 0; i < size; i++) {
                if (dayOf[i] == day) {
                    cast |= script.cast[scenes[i]];
                }
            }
            return cast;
        }
    }

    /**
     * Finds and keeps the BEST PLAN, DAY by DAY over the sets of SCENES that are taped already.
     * What a choice costs is one number, COST * 6^8 and the DAYS as digits of base 6 below it: the least
     * one is the BEST PLAN, and its digits are the DAYS.
     */
    private static final class Planner {
        private static final int SUBSETS = 256;
        private static final int ONE_PERSON = 1679616;
        private final Block block;
        private final boolean[] fits = new boolean[SUBSETS];
        private final int[] cast = new int[SUBSETS];
        private final int[] digits = new int[SUBSETS];
        // What must be taped by the next DAY's end once these are, because their SETS stand.
        private final int[] setMates = new int[SUBSETS];
        // What must be taped on the same DAY or ahead of it, because of the LOOKS.
        private final int[] notAfter = new int[SUBSETS];
        private final int[] minutes = new int[SUBSETS];
        private final int[] sets = new int[SUBSETS];
        private final int[] fromDay = new int[SUBSETS];
        private final int[] digitOf = new int[BLOCK_SCENES];
        final int[] keptScene = new int[BLOCK_SCENES];
        final int[] keptDay = new int[BLOCK_SCENES];
        int keptCount;

        Planner(Block block) {
            this.block = block;
        }

        void forget() {
            keptCount = 0;
        }

        int findBest(Script script) {
            forget();
            int all = (1 << block.size) - 1;
            weighSubsets(script, all);
            for (int taped = 0; taped < all; taped++) {
                fromDay[taped] = ENDLESS;
            }
            fromDay[all] = 0;
            for (int day = block.days - 1; day >= 0; day--) {
                // Upwards, since the choices of a set look at the day behind it for that set and larger ones.
                for (int taped = 0; taped <= all; taped++) {
                    fromDay[taped] = leastFrom(day, taped, all);
                }
            }
            return fromDay[0] == ENDLESS ? UNABLE : keepDays(fromDay[0]);
        }

        private void weighSubsets(Script script, int all) {
            int digit = 1;
            for (int i = block.size - 1; i >= 0; i--) {
                digitOf[i] = digit;
                digit *= MOST_DAYS;
            }
            fits[0] = true;
            for (int some = 1; some <= all; some++) {
                weigh(script, some);
            }
        }

        /** Weighs a set of SCENES by one of them and the rest, which is weighed already. */
        private void weigh(Script script, int some) {
            int rest = some & some - 1;
            int i = Integer.bitCount((some ^ rest) - 1);
            int scene = block.scenes[i];
            cast[some] = cast[rest] | script.cast[scene];
            digits[some] = digits[rest] + digitOf[i];
            notAfter[some] = notAfter[rest] | block.notAfter[i];
            minutes[some] = minutes[rest] + script.minutes[scene];
            sets[some] = sets[rest] | 1 << script.set[scene];
            fits[some] = minutes[some] <= block.minutes && Integer.bitCount(sets[some]) <= block.sets;
            int mates = 0;
            for (int j = 0; j < block.size; j++) {
                if (script.set[block.scenes[j]] == script.set[scene]) {
                    mates |= 1 << j;
                }
            }
            setMates[some] = setMates[rest] | mates;
        }

        private int leastFrom(int day, int taped, int all) {
            int free = all & ~taped;
            int least = ENDLESS;
            for (int today = 0; today <= free; today++) {
                if ((today & taped) != 0) {
                    continue;
                }
                int then = taped | today;
                boolean inOrder = ((setMates[taped] | notAfter[today]) & ~then) == 0;
                boolean allThere = (cast[today] & block.offOn[day]) == 0;
                if (inOrder && allThere && fits[today] && fromDay[then] != ENDLESS) {
                    int worth = Integer.bitCount(cast[today]) * ONE_PERSON + day * digits[today] + fromDay[then];
                    least = Math.min(least, worth);
                }
            }
            return least;
        }

        private int keepDays(int worth) {
            keptCount = block.size;
            int daysLeft = worth % ONE_PERSON;
            for (int i = block.size - 1; i >= 0; i--) {
                keptScene[i] = block.scenes[i];
                keptDay[i] = daysLeft % MOST_DAYS;
                daysLeft /= MOST_DAYS;
            }
            return worth / ONE_PERSON;
        }
    }

    /** The CUT of a WEEK. */
    private static final class Cutting {
        private final int[] scenes = new int[MOST_SCENES];
        private final boolean[] mayEnd = new boolean[MOST_SCENES];
        private final int[] upTo = new int[MOST_SCENES + 1];
        // For the PARTS from e on, beginning at a SCENE: the least greatest MINUTES, or ENDLESS.
        private final int[] least = new int[PARTS * (MOST_SCENES + 1)];
        private int n;

        int leastGreatest(Script script, int week) {
            gather(script, week);
            for (int i = 0; i <= n; i++) {
                least[(PARTS - 1) * (MOST_SCENES + 1) + i] = i < n ? upTo[n] - upTo[i] : ENDLESS;
            }
            for (int e = PARTS - 2; e >= 0; e--) {
                for (int i = 0; i <= n; i++) {
                    least[e * (MOST_SCENES + 1) + i] = leastFor(e, i);
                }
            }
            return least[0] == ENDLESS ? UNABLE : least[0];
        }

        private void gather(Script script, int week) {
            n = 0;
            for (int scene = 0; scene < script.told; scene++) {
                if (script.dropped[scene] == 0 && script.week[scene] == week) {
                    scenes[n] = scene;
                    mayEnd[n] = script.hook[scene] == 1;
                    upTo[n + 1] = upTo[n] + script.minutes[scene];
                    n++;
                }
            }
        }

        private int leastFor(int e, int begin) {
            int best = ENDLESS;
            for (int end = begin; end < n; end++) {
                if (mayEnd[end]) {
                    best = Math.min(best, greatestIf(e, begin, end));
                }
            }
            return best;
        }

        /** The greatest MINUTES if PART e (not the last) goes from begin to end. */
        private int greatestIf(int e, int begin, int end) {
            return Math.max(upTo[end + 1] - upTo[begin], least[(e + 1) * (MOST_SCENES + 1) + end + 1]);
        }

        /** The last SCENE of a PART in the CUT with that greatest, which was just found for the WEEK. */
        int lastSceneOf(int part, int greatest) {
            int begin = 0;
            int end = n - 1;
            for (int e = 0; e <= part; e++) {
                end = e == PARTS - 1 ? n - 1 : earliestEnd(e, begin, greatest);
                begin = end + 1;
            }
            return scenes[end];
        }

        private int earliestEnd(int e, int begin, int greatest) {
            for (int end = begin; end < n; end++) {
                if (mayEnd[end] && greatestIf(e, begin, end) <= greatest) {
                    return end;
                }
            }
            return n - 1;
        }
    }

    /** A TAPE: a row's elements are kept as longs that were narrowed to its sort. */
    private static final class Tape {
        int sort;
        int size;
        final long[] row = new long[MOST_ELEMENTS];
        private Script kept = null;

        /** The COPY, or null if it holds none. */
        Script heldScript() {
            return sort == SCRIPT ? kept : null;
        }

        boolean holdsRow() {
            return within(sort, BYTES, LONGS);
        }

        void holdRow(int newSort, int n) {
            sort = newSort;
            size = n;
            Arrays.fill(row, 0L);
        }

        void holdScript(Script script) {
            if (kept == null) {
                kept = new Script();
            }
            kept.takeFrom(script);
            sort = SCRIPT;
        }

        boolean hasPlaces(int from, int n) {
            return n >= 0 && from >= 0 && n <= size && from <= size - n;
        }

        long narrowed(long v) {
            switch (sort) {
                case BYTES: return (byte) v;
                case SHORTS: return (short) v;
                case INTS: return (int) v;
                default: return v;
            }
        }
    }
}
