import java.util.NoSuchElementException;

/** A town whose gates are shut by smoke: the promises are those of shared/DOC.md. */
public final class SmokeGates {
    public static final int NONE = -1;

    private static final int TAPE_BYTES = 600;
    private static final int SHORT_TEXT = 150;
    private static final int BOOK_TEXT = 100;
    private static final int MOST_CLAUSES = 60;
    private static final int MOST_GATES = 9;
    private static final int MOST_WOODS = 6;
    private static final int MOST_WINDS = 24;
    private static final int MOST_RAINS = 6;
    private static final int MOST_COMERS = 10;
    private static final int MOST_SIGNALS = 8;
    private static final int MOST_LINES = 9;
    private static final int MOST_OPEN = 6;
    private static final int MOST_BEGUN = 200;
    private static final int MOST_WORKS = 16;
    private static final int MOST_IMAGES = 3;
    private static final int MOST_STORED = 99;
    private static final int MOST_SCENT = 31;
    private static final int ALL_SIGNAL_BITS = 511;
    private static final int FIRE_LOGS = 6;
    private static final int LAST_HOUR = 1000;
    private static final int FAR_HOURS = 48;
    private static final int KEEPS_HOURS = 5;
    private static final int GUARD_HOURS = 24;
    private static final int IN = 1;
    private static final int OUT = 2;
    private static final int TOO_MANY_WORKS = -20;

    private final Text text;
    private final Program program;
    private final Scene now;
    private final Scene trial;
    private final Keeping keeping;
    private final Watch watch;
    private final Days drawn;
    private final History past;
    private final History[] imagePasts;
    private final int[][] imageRows;
    private Town spareTown;
    private Law spareLaw;
    private Book lines;
    private Book spareLines;
    private int images;
    private int refusedSteps;
    private int noSuchCalls;
    private int badCalls;

    public SmokeGates() {
        text = new Text();
        program = new Program();
        Town town = new Town();
        Law rule = new Law();
        now = new Scene(town, rule);
        trial = new Scene(town, rule);
        keeping = new Keeping(trial);
        watch = new Watch(trial);
        drawn = new Days(trial);
        past = new History();
        imagePasts = new History[MOST_IMAGES];
        for (int i = 0; i < MOST_IMAGES; i++) {
            imagePasts[i] = new History();
        }
        imageRows = new int[MOST_IMAGES][Scene.SIZE];
        spareTown = new Town();
        spareLaw = new Law();
        lines = new Book();
        spareLines = new Book();
    }

    public int feed(int a, int b, int c, int d, int e) {
        if (text.held + 20 > TAPE_BYTES) {
            return NONE;
        }
        text.append(a);
        text.append(b);
        text.append(c);
        text.append(d);
        text.append(e);
        return text.held;
    }

    public int town(int n) throws IllegalArgumentException {
        openText(n, TAPE_BYTES);
        spareTown.readFrom(text);
        text.close();
        if (text.fault != 0) {
            return text.fault - 10;
        }
        Town old = now.town;
        now.town = spareTown;
        trial.town = spareTown;
        spareTown = old;
        now.law.setPlain();
        lines.clear();
        now.begin();
        past.size = 0;
        images = 0;
        refusedSteps = 0;
        return now.town.gates;
    }

    public int law(int n) throws IllegalArgumentException {
        openText(n, SHORT_TEXT);
        spareLaw.readFrom(text);
        text.close();
        if (text.fault != 0) {
            return text.fault - 10;
        }
        Law old = now.law;
        now.law = spareLaw;
        trial.law = spareLaw;
        spareLaw = old;
        return 1;
    }

    public int work(int n) throws IllegalArgumentException {
        openText(n, SHORT_TEXT);
        if (past.size >= MOST_WORKS) {
            text.close();
            return TOO_MANY_WORKS;
        }
        program.readFrom(text, now.town);
        text.close();
        if (text.fault != 0) {
            return text.fault - 10;
        }
        past.push(now);
        program.run(now);
        refusedSteps = program.refused;
        return program.done;
    }

    public int book(int n) throws IllegalArgumentException {
        openText(n, BOOK_TEXT);
        spareLines.readFrom(text, now.town);
        text.close();
        if (text.fault != 0) {
            return text.fault - 10;
        }
        Book old = lines;
        lines = spareLines;
        spareLines = old;
        return lines.size;
    }

    public int fault() {
        return text.faultPlace;
    }

    public int undo() {
        if (past.size <= 0) {
            return -1;
        }
        past.pop(now);
        refusedSteps = 0;
        return past.size;
    }

    public int told(int what) throws IllegalArgumentException {
        needArgument(what >= 0 && what <= 10);
        switch (what) {
            case 0: return now.town.gates;
            case 1: return now.town.woods;
            case 2: return now.town.comers;
            case 3: return now.town.signals;
            case 4: return now.hourNow();
            case 5: return now.windNow();
            case 6: return now.rainNow();
            case 7: return now.allBurning();
            case 8: return now.shutGates();
            case 9: return lines.size;
            default: return refusedSteps;
        }
    }

    public int gate(int gate, int what) throws NoSuchElementException, IllegalArgumentException {
        needGate(gate);
        needArgument(what >= 0 && what <= 5);
        switch (what) {
            case 0: return now.town.lean[gate];
            case 1: return now.smokeAt(gate);
            case 2: return now.scentAt(gate);
            case 3: return now.isShut(gate) ? 1 : 0;
            case 4: return now.burning(gate);
            default: return now.standsAt(gate);
        }
    }

    public int wood(int wood, int what) throws NoSuchElementException, IllegalArgumentException {
        needWood(wood);
        needArgument(what >= 0 && what <= 4);
        switch (what) {
            case 0: return now.town.thick[wood];
            case 1: return now.town.burns[wood];
            case 2: return now.town.scent[wood];
            case 3: return now.stored(wood);
            default: return now.burningOf(wood);
        }
    }

    public int comer(int comer, int what) throws NoSuchElementException, IllegalArgumentException {
        needElement(comer >= 0 && comer < now.town.comers);
        needArgument(what >= 0 && what <= 3);
        switch (what) {
            case 0: return now.town.comerGate[comer];
            case 1: return now.town.comerHour[comer];
            case 2: return now.town.toll[comer];
            default: return now.came(comer);
        }
    }

    public int log(int gate, int k, int what) throws NoSuchElementException, IllegalArgumentException {
        needGate(gate);
        needElement(k >= 0 && k < now.burning(gate));
        needArgument(what == 0 || what == 1);
        return what == 0 ? now.woodOf(gate, k) : now.leftOf(gate, k);
    }

    public boolean would(int gate, int smoke, int logs) throws NoSuchElementException, IllegalArgumentException {
        needGate(gate);
        needArgument(smoke >= 0 && smoke <= 999 && logs >= 0 && logs <= FIRE_LOGS);
        return now.isShutBy(gate, smoke, logs);
    }

    public int when(int gate, int how) throws NoSuchElementException, IllegalArgumentException {
        needGate(gate);
        needArgument(how == 0 || how == 1);
        startTrial();
        for (int t = 0; t <= FAR_HOURS; t++) {
            if (trial.isShut(gate) == (how == 1)) {
                return t;
            }
            trial.pass();
        }
        return NONE;
    }

    public int shut(int gate, int n) throws NoSuchElementException, IllegalArgumentException {
        needGate(gate);
        needArgument(n >= 0 && n <= 30);
        startTrial();
        int bits = 0;
        for (int t = 0; t < n; t++) {
            if (trial.isShut(gate)) {
                bits |= 1 << t;
            }
            trial.pass();
        }
        return bits;
    }

    public int keeps(int gate, int wood, int n, int bits, int what)
            throws NoSuchElementException, IllegalArgumentException {
        needGate(gate);
        needWood(wood);
        needArgument(n >= 0 && n <= KEEPS_HOURS);
        needArgument(bits >= 0 && bits < 1 << n && (what == 0 || what == 1));
        startTrial();
        keeping.search(gate, wood, n, bits);
        return what == 0 ? keeping.fewest : keeping.digits;
    }

    public int thief(int gate, int what) throws NoSuchElementException, IllegalArgumentException {
        needGate(gate);
        needArgument(what == 0 || what == 1);
        startTrial();
        for (int t = 0; t < FAR_HOURS; t++) {
            int way = openGateWithin(gate, t);
            if (way != NONE) {
                return what == 0 ? t : way;
            }
            trial.pass();
        }
        return NONE;
    }

    public int guard(int n, int what) throws IllegalArgumentException {
        needArgument(n >= 1 && n <= GUARD_HOURS && what >= 0 && what <= 2);
        startTrial();
        watch.play(n);
        return what == 0 ? watch.rests : what == 1 ? watch.first : watch.has;
    }

    public int lean(int gate, int gates, int what) throws NoSuchElementException, IllegalArgumentException {
        needGate(gate);
        needArgument(areGates(gates) && (what == 0 || what == 1));
        int best = 0;
        int least = now.smokeByLean(gate, 0, gates);
        for (int l = 1; l <= 3; l++) {
            int smoke = now.smokeByLean(gate, l, gates);
            if (smoke < least) {
                least = smoke;
                best = l;
            }
        }
        return what == 0 ? best : least;
    }

    public int burnt(int gate) throws NoSuchElementException {
        needGate(gate);
        return lines.fitsOf(now, gate);
    }

    public int fits(int what) throws IllegalArgumentException {
        needArgument(what == 0 || what == 1);
        int many = 0;
        for (int g = 0; g < now.town.gates; g++) {
            int set = lines.firstFit(now, g);
            if (what == 1 && set != NONE) {
                return 64 * g + set;
            }
            many += lines.fitsOf(now, g);
        }
        return what == 0 ? many : NONE;
    }

    public int nose(int what) throws IllegalArgumentException {
        needArgument(what == 0 || what == 1);
        lines.tallySmells(now);
        int best = NONE;
        int fewest = NONE;
        for (int g = 0; g < now.town.gates; g++) {
            int worst = lines.worstSmell(g);
            if (!lines.has(g) && (best == NONE || worst < fewest)) {
                best = g;
                fewest = worst;
            }
        }
        return what == 0 ? best : fewest;
    }

    public int siege(int n, int what) throws IllegalArgumentException {
        needArgument(n >= 1 && n <= 9 && (what == 0 || what == 1));
        // Which WOOD a log is of changes neither answer, so the sum is enough.
        int all = now.allStored();
        return what == 0 ? all / n : all % n;
    }

    public int distance(int signal, int other) throws NoSuchElementException {
        needElement(signal >= 0 && signal < now.town.signals && other >= 0 && other < now.town.signals);
        return Integer.bitCount(now.town.smokes[signal] ^ now.town.smokes[other]);
    }

    public int closest() {
        int best = NONE;
        int least = MOST_GATES + 1;
        for (int a = 0; a < now.town.signals; a++) {
            for (int b = a + 1; b < now.town.signals; b++) {
                int apart = Integer.bitCount(now.town.smokes[a] ^ now.town.smokes[b]);
                if (apart < least) {
                    least = apart;
                    best = 10 * a + b;
                }
            }
        }
        return best;
    }

    public int read(int gates) throws IllegalArgumentException {
        needArgument(gates >= 0 && gates <= ALL_SIGNAL_BITS);
        return now.town.nearestSignal(gates);
    }

    public int seems() {
        return now.town.nearestSignal(now.smokingGates());
    }

    public int share(int gate, int gates, int n) throws NoSuchElementException, IllegalArgumentException {
        needGate(gate);
        needArgument(areGates(gates) && n >= 0 && n <= 99);
        if ((gates >> gate & 1) == 0) {
            return 0;
        }
        int bound = FIRE_LOGS;
        while (bound > 0 && givenBy(gates, bound) > n) {
            bound--;
        }
        return Math.min(bound, now.burning(gate));
    }

    public int crowd(int what) throws IllegalArgumentException {
        needArgument(what == 0 || what == 1);
        int best = NONE;
        int most = 0;
        for (int g = 0; g < now.town.gates; g++) {
            int fires = now.firesThatStandAt(g);
            if (fires > most) {
                most = fires;
                best = g;
            }
        }
        return what == 0 || best == NONE ? best : most;
    }

    public int turned(int n) throws IllegalArgumentException {
        needArgument(n >= 0 && n <= 96);
        startTrial();
        passTrial(n);
        int bits = 0;
        for (int c = 0; c < now.town.comers; c++) {
            if (trial.came(c) == OUT && now.came(c) != OUT) {
                bits |= 1 << c;
            }
        }
        return bits;
    }

    public int thickest(int what) throws IllegalArgumentException {
        needArgument(what == 0 || what == 1);
        startTrial();
        int best = 0;
        int most = 0;
        for (int t = 0; t < FAR_HOURS; t++) {
            int many = trial.shutGates();
            if (many > most) {
                most = many;
                best = t;
            }
            trial.pass();
        }
        return what == 0 ? best : most;
    }

    public int burnsOut() {
        int longest = 0;
        for (int g = 0; g < now.town.gates; g++) {
            for (int k = 0; k < now.burning(g); k++) {
                longest = Math.max(longest, now.leftOf(g, k));
            }
        }
        return longest;
    }

    public int ahead(int hours, int what) throws IllegalArgumentException {
        needArgument(hours >= 0 && hours <= 96 && what >= 0 && what <= 2);
        startTrial();
        passTrial(hours);
        return what == 0 ? trial.comersThat(IN) : what == 1 ? trial.comersThat(OUT) : trial.allStored();
    }

    public int days(int seed, int q, int hours, int what) throws IllegalArgumentException {
        needArgument(q >= 0 && q <= 16 && hours >= 1 && hours <= 96 && what >= 0 && what <= 3);
        startTrial();
        drawn.run(seed, q, hours);
        switch (what) {
            case 0: return trial.comersThat(IN);
            case 1: return trial.comersThat(OUT);
            case 2: return drawn.laid;
            default: return drawn.rainy;
        }
    }

    public int span(int seed, int many, int q, int hours, int what) throws IllegalArgumentException {
        needArgument(many >= 1 && many <= 20 && q >= 0 && q <= 16);
        needArgument(hours >= 1 && hours <= 96 && what >= 0 && what <= 2);
        int fewest = MOST_COMERS;
        int most = 0;
        int calm = 0;
        int outBefore = now.comersThat(OUT);
        for (int i = 0; i < many; i++) {
            startTrial();
            drawn.run(seed + i, q, hours);
            fewest = Math.min(fewest, trial.comersThat(IN));
            most = Math.max(most, trial.comersThat(IN));
            if (trial.comersThat(OUT) == outBefore) {
                calm++;
            }
        }
        return what == 0 ? fewest : what == 1 ? most : calm;
    }

    public int image() {
        if (images >= MOST_IMAGES) {
            return -1;
        }
        now.saveTo(imageRows[images]);
        imagePasts[images].copyFrom(past);
        images++;
        return images;
    }

    public int restore() {
        if (images <= 0) {
            return -1;
        }
        images--;
        now.loadFrom(imageRows[images]);
        past.copyFrom(imagePasts[images]);
        refusedSteps = 0;
        return images;
    }

    public int status(int what) {
        return what == 0 ? noSuchCalls : what == 1 ? badCalls : NONE;
    }

    public int count(int what) {
        switch (what) {
            case 0: return images;
            case 1: return text.held;
            case 2: return past.size;
            default: return NONE;
        }
    }

    private void needElement(boolean there) {
        if (!there) {
            noSuchCalls++;
            throw new NoSuchElementException("no such gate, wood, comer, signal or log");
        }
    }

    private void needArgument(boolean good) {
        if (!good) {
            badCalls++;
            throw new IllegalArgumentException("a number that is none such");
        }
    }

    private void needGate(int gate) {
        needElement(gate >= 0 && gate < now.town.gates);
    }

    private void needWood(int wood) {
        needElement(wood >= 0 && wood < now.town.woods);
    }

    private boolean areGates(int bits) {
        return bits >= 0 && bits < 1 << now.town.gates;
    }

    private void openText(int n, int most) {
        needArgument(n >= 0 && n <= most && n <= text.held);
        text.open(n);
    }

    private void startTrial() {
        trial.loadFrom(now.row);
    }

    private void passTrial(int hours) {
        for (int t = 0; t < hours; t++) {
            trial.pass();
        }
    }

    /** The least GATE that is not SHUT among those that the thief may have come to in so many HOURS. */
    private int openGateWithin(int gate, int hours) {
        int all = now.town.gates;
        for (int g = 0; g < all; g++) {
            int way = Math.abs(g - gate);
            if (Math.min(way, all - way) <= hours && !trial.isShut(g)) {
                return g;
            }
        }
        return NONE;
    }

    private int givenBy(int gates, int bound) {
        int given = 0;
        for (int g = 0; g < now.town.gates; g++) {
            if ((gates >> g & 1) == 1) {
                given += Math.min(bound, now.burning(g));
            }
        }
        return given;
    }

    /** The TAPE, and the place in the text that is read from it; behind a FAULT nothing more is read. */
    private static final class Text {
        static final int CANNOT_STAND = 1;
        static final int NONE_SUCH = 2;
        static final int TOO_MANY = 3;
        static final int END = -1;
        // Above every number that a text may hold, and far from where ten times it would wrap.
        private static final int BEYOND = 100000;

        private final byte[] tape = new byte[TAPE_BYTES];
        int held;
        int fault;
        int faultPlace = NONE;
        private int end;
        private int place;
        private int start;

        void append(int number) {
            for (int shift = 24; shift >= 0 && held < TAPE_BYTES; shift -= 8) {
                tape[held] = (byte) (number >> shift);
                held++;
            }
        }

        void open(int n) {
            end = Math.min(n, TAPE_BYTES);
            place = 0;
            start = 0;
            fault = 0;
            faultPlace = NONE;
        }

        void close() {
            held = 0;
        }

        private void failAt(int kind, int where) {
            if (fault == 0) {
                fault = kind;
                faultPlace = where;
            }
        }

        /** The number or word read last can't be. */
        void fail(int kind) {
            failAt(kind, start);
        }

        /** What comes next can't be. */
        void failNext(int kind) {
            next();
            failAt(kind, place);
        }

        /** The byte that comes next, behind blanks; END at the end, and behind a FAULT. */
        int next() {
            if (fault != 0) {
                return END;
            }
            while (place < end && tape[place] == ' ') {
                place++;
            }
            return place < end ? tape[place] & 255 : END;
        }

        boolean isNumberNext() {
            int c = next();
            return c >= '0' && c <= '9';
        }

        boolean take(char sign) {
            if (next() != sign) {
                return false;
            }
            place++;
            return true;
        }

        void need(char sign) {
            if (next() == sign) {
                place++;
            } else {
                failAt(CANNOT_STAND, place);
            }
        }

        int number(int least, int most) {
            next();
            start = place;
            int value = 0;
            while (fault == 0 && place < end && tape[place] >= '0' && tape[place] <= '9') {
                value = Math.min(10 * value + tape[place] - '0', BEYOND);
                place++;
            }
            if (place == start) {
                fail(CANNOT_STAND);
            } else if (value < least || value > most) {
                fail(NONE_SUCH);
            }
            return value;
        }

        void word() {
            next();
            start = place;
            while (fault == 0 && place < end && tape[place] >= 'a' && tape[place] <= 'z') {
                place++;
            }
        }

        boolean isWord(String told) {
            if (fault != 0 || place - start != told.length()) {
                return false;
            }
            for (int i = 0; i < told.length(); i++) {
                if (tape[start + i] != told.charAt(i)) {
                    return false;
                }
            }
            return true;
        }
    }

    /** What a TOWN's text tells; no WORK changes it. */
    private static final class Town {
        int gates;
        int woods;
        int winds;
        int rains;
        int comers;
        int signals;
        final int[] lean = new int[MOST_GATES];
        final int[] thick = new int[MOST_WOODS];
        final int[] burns = new int[MOST_WOODS];
        final int[] scent = new int[MOST_WOODS];
        final int[] stock = new int[MOST_WOODS];
        final int[] wind = new int[MOST_WINDS];
        final int[] rainFrom = new int[MOST_RAINS];
        final int[] rainTo = new int[MOST_RAINS];
        final int[] comerGate = new int[MOST_COMERS];
        final int[] comerHour = new int[MOST_COMERS];
        final int[] toll = new int[MOST_COMERS];
        final int[] smokes = new int[MOST_SIGNALS];

        void readFrom(Text text) {
            gates = 0;
            woods = 0;
            winds = 0;
            rains = 0;
            comers = 0;
            signals = 0;
            for (int clause = 0; clause <= MOST_CLAUSES && text.next() != Text.END; clause++) {
                readClause(text, clause >= MOST_CLAUSES);
                text.need(';');
            }
        }

        private void readClause(Text text, boolean tooMany) {
            text.word();
            if (text.isWord("gate")) {
                readGate(text, tooMany || gates >= MOST_GATES);
            } else if (text.isWord("wood")) {
                readWood(text, tooMany || woods >= MOST_WOODS);
            } else if (text.isWord("wind")) {
                readWind(text, tooMany || winds >= MOST_WINDS);
            } else if (text.isWord("rain")) {
                readRain(text, tooMany || rains >= MOST_RAINS);
            } else if (text.isWord("comer")) {
                readComer(text, tooMany || comers >= MOST_COMERS);
            } else if (text.isWord("signal")) {
                readSignal(text, tooMany || signals >= MOST_SIGNALS);
            } else {
                text.fail(Text.CANNOT_STAND);
            }
        }

        private void readGate(Text text, boolean tooMany) {
            if (tooMany) {
                text.fail(Text.TOO_MANY);
                return;
            }
            lean[gates] = text.number(0, 3);
            gates++;
        }

        private void readWood(Text text, boolean tooMany) {
            if (tooMany) {
                text.fail(Text.TOO_MANY);
                return;
            }
            thick[woods] = text.number(1, 20);
            burns[woods] = text.number(1, 9);
            scent[woods] = text.number(0, MOST_SCENT);
            stock[woods] = text.number(0, 40);
            woods++;
        }

        private void readWind(Text text, boolean tooMany) {
            if (tooMany) {
                text.fail(Text.TOO_MANY);
                return;
            }
            wind[winds] = text.number(0, 8);
            winds++;
        }

        private void readRain(Text text, boolean tooMany) {
            if (tooMany) {
                text.fail(Text.TOO_MANY);
                return;
            }
            rainFrom[rains] = text.number(0, 99);
            rainTo[rains] = text.number(rainFrom[rains], 99);
            rains++;
        }

        private void readComer(Text text, boolean tooMany) {
            if (tooMany) {
                text.fail(Text.TOO_MANY);
                return;
            }
            comerGate[comers] = text.number(0, gates - 1);
            comerHour[comers] = text.number(0, 99);
            toll[comers] = text.number(0, 9);
            comers++;
        }

        private void readSignal(Text text, boolean tooMany) {
            if (tooMany) {
                text.fail(Text.TOO_MANY);
                return;
            }
            smokes[signals] = text.number(0, ALL_SIGNAL_BITS);
            signals++;
        }

        int windIn(int hour) {
            return winds > 0 && hour >= 0 ? wind[hour % winds] : 0;
        }

        boolean rainsIn(int hour) {
            for (int i = 0; i < rains; i++) {
                if (hour >= rainFrom[i] && hour <= rainTo[i]) {
                    return true;
                }
            }
            return false;
        }

        int scentOfSet(int set) {
            int all = 0;
            for (int k = 0; k < woods; k++) {
                if ((set >> k & 1) == 1) {
                    all |= scent[k];
                }
            }
            return all;
        }

        int nearestSignal(int bits) {
            int best = NONE;
            int least = MOST_GATES + 1;
            for (int i = 0; i < signals; i++) {
                int apart = Integer.bitCount(smokes[i] ^ bits);
                if (apart < least) {
                    least = apart;
                    best = i;
                }
            }
            return best;
        }
    }

    /** A LAW as steps of a stack: numbers as they are, senses and joinings as numbers below 0. */
    private static final class Law {
        static final int SMOKE = 0;
        static final int LOGS = 1;
        static final int WIND = 2;
        static final int RAIN = 3;
        static final int HOUR = 4;
        static final int GATE = 5;
        static final int SCENT = 6;
        static final int SENSES = 7;
        private static final int PLUS = -11;
        private static final int MINUS = -12;
        private static final int TIMES = -13;
        private static final int OVER = -14;
        private static final int LEAST = -15;
        private static final int MOST = -16;

        private final int[] code = new int[SHORT_TEXT];
        private final int[] stack = new int[SHORT_TEXT];
        private int size;

        Law() {
            setPlain();
        }

        void setPlain() {
            size = 0;
            put(senseCode(SMOKE));
            put(9);
            put(MINUS);
        }

        void readFrom(Text text) {
            size = 0;
            readSum(text, 0);
            if (text.next() != Text.END) {
                text.failNext(Text.CANNOT_STAND);
            }
        }

        private void put(int step) {
            if (size < code.length) {
                code[size] = step;
                size++;
            }
        }

        private int senseCode(int sense) {
            return -1 - sense;
        }

        private void readSum(Text text, int open) {
            readProduct(text, open);
            for (int turn = 0; turn < SHORT_TEXT; turn++) {
                if (text.take('+')) {
                    readProduct(text, open);
                    put(PLUS);
                } else if (text.take('-')) {
                    readProduct(text, open);
                    put(MINUS);
                } else {
                    return;
                }
            }
        }

        private void readProduct(Text text, int open) {
            readUnit(text, open);
            for (int turn = 0; turn < SHORT_TEXT; turn++) {
                if (text.take('*')) {
                    readUnit(text, open);
                    put(TIMES);
                } else if (text.take('/')) {
                    readUnit(text, open);
                    put(OVER);
                } else {
                    return;
                }
            }
        }

        private void readUnit(Text text, int open) {
            if (text.isNumberNext()) {
                put(text.number(0, 999));
            } else if (text.next() == '(') {
                readBrackets(text, open);
            } else {
                text.word();
                if (text.isWord("least")) {
                    readPair(text, open, LEAST);
                } else if (text.isWord("most")) {
                    readPair(text, open, MOST);
                } else {
                    readSense(text);
                }
            }
        }

        private void readBrackets(Text text, int open) {
            if (open >= MOST_OPEN) {
                text.failNext(Text.TOO_MANY);
                return;
            }
            text.need('(');
            readSum(text, open + 1);
            text.need(')');
        }

        private void readPair(Text text, int open, int joining) {
            if (open >= MOST_OPEN) {
                text.fail(Text.TOO_MANY);
                return;
            }
            text.need('[');
            readSum(text, open + 1);
            text.need(',');
            readSum(text, open + 1);
            text.need(']');
            put(joining);
        }

        private void readSense(Text text) {
            if (text.isWord("smoke")) {
                put(senseCode(SMOKE));
            } else if (text.isWord("logs")) {
                put(senseCode(LOGS));
            } else if (text.isWord("wind")) {
                put(senseCode(WIND));
            } else if (text.isWord("rain")) {
                put(senseCode(RAIN));
            } else if (text.isWord("hour")) {
                put(senseCode(HOUR));
            } else if (text.isWord("gate")) {
                put(senseCode(GATE));
            } else if (text.isWord("scent")) {
                put(senseCode(SCENT));
            } else {
                text.fail(Text.CANNOT_STAND);
            }
        }

        boolean shuts(int[] senses) {
            int top = 0;
            for (int i = 0; i < size; i++) {
                int step = code[i];
                if (step > PLUS) {
                    if (top < stack.length) {
                        stack[top] = step >= 0 ? step : senses[-1 - step];
                        top++;
                    }
                } else if (top >= 2) {
                    top--;
                    stack[top - 1] = joined(step, stack[top - 1], stack[top]);
                }
            }
            return top > 0 && stack[0] > 0;
        }

        private int joined(int joining, int a, int b) {
            switch (joining) {
                case PLUS: return a + b;
                case MINUS: return a - b;
                case TIMES: return a * b;
                case OVER: return b == 0 ? 0 : a / b;
                case LEAST: return a < b ? a : b;
                default: return a > b ? a : b;
            }
        }
    }

    /** A WORK's text as rows of three numbers: the kind of STEP, and two that it needs. */
    private static final class Program {
        private static final int WIDTH = 3;
        private static final int LOG = 1;
        private static final int DOUSE = 2;
        private static final int HOUR = 3;
        private static final int AGAIN = 4;

        private final int[] code = new int[WIDTH * SHORT_TEXT];
        private int size;
        private int begun;
        int done;
        int refused;

        void readFrom(Text text, Town town) {
            size = 0;
            readSteps(text, town, 0);
            if (text.next() != Text.END) {
                text.failNext(Text.CANNOT_STAND);
            }
        }

        private void readSteps(Text text, Town town, int open) {
            for (int turn = 0; turn < SHORT_TEXT; turn++) {
                int c = text.next();
                if (c == Text.END || c == ']') {
                    return;
                }
                readStep(text, town, open);
                text.need(';');
            }
        }

        private void readStep(Text text, Town town, int open) {
            text.word();
            if (text.isWord("log")) {
                int gate = text.number(0, town.gates - 1);
                put(LOG, gate, text.number(0, town.woods - 1));
            } else if (text.isWord("douse")) {
                put(DOUSE, text.number(0, town.gates - 1), 0);
            } else if (text.isWord("hour")) {
                put(HOUR, 0, 0);
            } else if (text.isWord("again")) {
                readAgain(text, town, open);
            } else {
                text.fail(Text.CANNOT_STAND);
            }
        }

        private void readAgain(Text text, Town town, int open) {
            if (open >= MOST_OPEN) {
                text.fail(Text.TOO_MANY);
                return;
            }
            int at = size;
            put(AGAIN, text.number(0, 30), 0);
            text.need('[');
            readSteps(text, town, open + 1);
            text.need(']');
            if (at + WIDTH <= code.length) {
                code[at + 2] = size;
            }
        }

        private void put(int kind, int a, int b) {
            if (size + WIDTH <= code.length) {
                code[size] = kind;
                code[size + 1] = a;
                code[size + 2] = b;
                size += WIDTH;
            }
        }

        void run(Scene scene) {
            begun = 0;
            done = 0;
            refused = 0;
            runSteps(scene, 0, size, 0);
        }

        private void runSteps(Scene scene, int from, int to, int open) {
            if (open > MOST_OPEN) {
                return;
            }
            int at = from;
            while (at + WIDTH <= to && begun < MOST_BEGUN) {
                begun++;
                int behind = at + WIDTH;
                if (code[at] == AGAIN) {
                    behind = Math.max(behind, code[at + 2]);
                    for (int i = 0; i < code[at + 1] && begun < MOST_BEGUN; i++) {
                        runSteps(scene, at + WIDTH, behind, open + 1);
                    }
                } else if (canDo(scene, code[at], code[at + 1], code[at + 2])) {
                    done++;
                } else {
                    refused++;
                }
                at = behind;
            }
        }

        /** Does one STEP, if it can be done. */
        private boolean canDo(Scene scene, int kind, int gate, int wood) {
            if (kind == LOG) {
                return scene.lay(gate, wood);
            }
            if (kind == DOUSE) {
                return scene.quench(gate);
            }
            if (scene.hourNow() >= LAST_HOUR) {
                return false;
            }
            scene.pass();
            return true;
        }
    }

    /** What was smelt at which GATE, and what may have burned by it. */
    private static final class Book {
        private static final int SMELLS = MOST_SCENT + 1;

        private final int[] smelt = new int[MOST_GATES];
        private final int[] tally = new int[MOST_GATES * SMELLS];
        int size;

        Book() {
            clear();
        }

        void clear() {
            size = 0;
            for (int g = 0; g < MOST_GATES; g++) {
                smelt[g] = NONE;
            }
        }

        boolean has(int gate) {
            return smelt[gate] != NONE;
        }

        void readFrom(Text text, Town town) {
            clear();
            for (int line = 0; line <= MOST_LINES && text.next() != Text.END; line++) {
                readLine(text, town);
                text.need(';');
            }
        }

        private void readLine(Text text, Town town) {
            int gate = text.number(0, town.gates - 1);
            if (gate >= 0 && gate < MOST_GATES && has(gate)) {
                text.fail(Text.NONE_SUCH);
            }
            if (size >= MOST_LINES) {
                text.fail(Text.TOO_MANY);
            }
            int smell = text.number(0, MOST_SCENT);
            if (text.fault == 0) {
                smelt[gate] = smell;
                size++;
            }
        }

        private boolean isFit(Town town, int stands, int smell) {
            for (int g = 0; g < town.gates; g++) {
                if (has(g) && smelt[g] != (g == stands ? smell : 0)) {
                    return false;
                }
            }
            return true;
        }

        int fitsOf(Scene scene, int gate) {
            int stands = scene.standsAt(gate);
            int many = 0;
            for (int set = 1; set < 1 << scene.town.woods; set++) {
                if (isFit(scene.town, stands, scene.town.scentOfSet(set))) {
                    many++;
                }
            }
            return many;
        }

        int firstFit(Scene scene, int gate) {
            int stands = scene.standsAt(gate);
            for (int set = 1; set < 1 << scene.town.woods; set++) {
                if (isFit(scene.town, stands, scene.town.scentOfSet(set))) {
                    return set;
                }
            }
            return NONE;
        }

        /** Counts, for each GATE and each smell there, the FITS by which it would smell so. */
        void tallySmells(Scene scene) {
            for (int i = 0; i < tally.length; i++) {
                tally[i] = 0;
            }
            for (int g = 0; g < scene.town.gates; g++) {
                int stands = scene.standsAt(g);
                for (int set = 1; set < 1 << scene.town.woods; set++) {
                    int smell = scene.town.scentOfSet(set);
                    if (isFit(scene.town, stands, smell)) {
                        tallyFit(scene.town, stands, smell);
                    }
                }
            }
        }

        private void tallyFit(Town town, int stands, int smell) {
            for (int g = 0; g < town.gates; g++) {
                int there = g == stands ? smell : 0;
                if (there >= 0 && there < SMELLS) {
                    tally[g * SMELLS + there]++;
                }
            }
        }

        int worstSmell(int gate) {
            int worst = 0;
            for (int smell = 0; smell < SMELLS; smell++) {
                worst = Math.max(worst, tally[gate * SMELLS + smell]);
            }
            return worst;
        }
    }

    /** All that WORK changes, in one row of numbers, and what stands where by it in this HOUR. */
    private static final class Scene {
        private static final int AT_HOUR = 0;
        private static final int AT_STORE = 1;
        private static final int AT_CAME = AT_STORE + MOST_WOODS;
        private static final int AT_BURNING = AT_CAME + MOST_COMERS;
        private static final int AT_WOOD = AT_BURNING + MOST_GATES;
        private static final int AT_LEFT = AT_WOOD + MOST_GATES * FIRE_LOGS;
        static final int SIZE = AT_LEFT + MOST_GATES * FIRE_LOGS;

        final int[] row = new int[SIZE];
        Town town;
        Law law;
        private boolean rainDrawn;
        private boolean seen;
        private int wind;
        private int rain;
        private final int[] smoke = new int[MOST_GATES];
        private final int[] smell = new int[MOST_GATES];
        private final int[] senses = new int[Law.SENSES];

        Scene(Town town, Law law) {
            this.town = town;
            this.law = law;
        }

        void begin() {
            for (int i = 0; i < SIZE; i++) {
                row[i] = 0;
            }
            for (int k = 0; k < town.woods; k++) {
                row[AT_STORE + k] = town.stock[k];
            }
            rainDrawn = false;
            seen = false;
        }

        void loadFrom(int[] other) {
            System.arraycopy(other, 0, row, 0, SIZE);
            rainDrawn = false;
            seen = false;
        }

        void saveTo(int[] other) {
            System.arraycopy(row, 0, other, 0, SIZE);
        }

        void setRainDrawn(boolean rains) {
            rainDrawn = rains;
            seen = false;
        }

        int hourNow() {
            return row[AT_HOUR];
        }

        int stored(int wood) {
            return row[AT_STORE + wood];
        }

        int came(int comer) {
            return row[AT_CAME + comer];
        }

        int burning(int gate) {
            return row[AT_BURNING + gate];
        }

        int woodOf(int gate, int k) {
            return row[AT_WOOD + gate * FIRE_LOGS + k];
        }

        int leftOf(int gate, int k) {
            return row[AT_LEFT + gate * FIRE_LOGS + k];
        }

        int windNow() {
            look();
            return wind;
        }

        int rainNow() {
            look();
            return rain;
        }

        int smokeAt(int gate) {
            look();
            return smoke[gate];
        }

        int scentAt(int gate) {
            look();
            return smell[gate];
        }

        int standsAt(int gate) {
            look();
            return standsByLean(gate, town.lean[gate]);
        }

        private int standsByLean(int gate, int lean) {
            return town.gates > 0 ? (gate + lean + wind) % town.gates : 0;
        }

        private int thickNow(int wood) {
            return rain == 1 ? town.thick[wood] / 2 : town.thick[wood];
        }

        private int smokeOfFire(int gate) {
            int all = 0;
            for (int k = 0; k < burning(gate); k++) {
                all += thickNow(woodOf(gate, k));
            }
            return all;
        }

        /** Works out what stands where, unless that is known since the latest change. */
        private void look() {
            if (seen) {
                return;
            }
            seen = true;
            wind = town.windIn(hourNow());
            rain = rainDrawn || town.rainsIn(hourNow()) ? 1 : 0;
            for (int g = 0; g < town.gates; g++) {
                smoke[g] = 0;
                smell[g] = 0;
            }
            for (int g = 0; g < town.gates; g++) {
                int stands = standsByLean(g, town.lean[g]);
                for (int k = 0; k < burning(g); k++) {
                    int wood = woodOf(g, k);
                    smoke[stands] += thickNow(wood);
                    smell[stands] |= town.scent[wood];
                }
            }
        }

        /** SMOKE at told GATES, were one GATE to lean otherwise. */
        int smokeByLean(int gate, int lean, int gates) {
            look();
            int all = 0;
            for (int g = 0; g < town.gates; g++) {
                int stands = standsByLean(g, g == gate ? lean : town.lean[g]);
                if ((gates >> stands & 1) == 1) {
                    all += smokeOfFire(g);
                }
            }
            return all;
        }

        boolean isShut(int gate) {
            look();
            sense(gate, smoke[gate], burning(gate));
            return law.shuts(senses);
        }

        boolean isShutBy(int gate, int smokeThere, int logs) {
            look();
            sense(gate, smokeThere, logs);
            return law.shuts(senses);
        }

        private void sense(int gate, int smokeThere, int logs) {
            senses[Law.SMOKE] = smokeThere;
            senses[Law.LOGS] = logs;
            senses[Law.WIND] = wind;
            senses[Law.RAIN] = rain;
            senses[Law.HOUR] = hourNow() % 24;
            senses[Law.GATE] = gate;
            senses[Law.SCENT] = smell[gate];
        }

        int shutGates() {
            int many = 0;
            for (int g = 0; g < town.gates; g++) {
                if (isShut(g)) {
                    many++;
                }
            }
            return many;
        }

        boolean lay(int gate, int wood) {
            int many = burning(gate);
            if (stored(wood) <= 0 || many >= FIRE_LOGS) {
                return false;
            }
            int at = gate * FIRE_LOGS + many;
            row[AT_STORE + wood]--;
            row[AT_WOOD + at] = wood;
            row[AT_LEFT + at] = town.burns[wood];
            row[AT_BURNING + gate]++;
            seen = false;
            return true;
        }

        boolean quench(int gate) {
            if (burning(gate) <= 0) {
                return false;
            }
            row[AT_BURNING + gate] = 0;
            seen = false;
            return true;
        }

        /** The HOUR goes by, also beyond the one at which WORK ends. */
        void pass() {
            for (int c = 0; c < town.comers; c++) {
                if (town.comerHour[c] == hourNow()) {
                    row[AT_CAME + c] = isShut(town.comerGate[c]) ? OUT : IN;
                    takeToll(c);
                }
            }
            for (int g = 0; g < town.gates; g++) {
                burnDown(g);
            }
            row[AT_HOUR]++;
            rainDrawn = false;
            seen = false;
        }

        private void takeToll(int comer) {
            if (came(comer) == IN && town.woods > 0) {
                row[AT_STORE] = Math.min(MOST_STORED, row[AT_STORE] + town.toll[comer]);
            }
        }

        private void burnDown(int gate) {
            int first = gate * FIRE_LOGS;
            int kept = 0;
            for (int k = 0; k < burning(gate); k++) {
                int left = leftOf(gate, k) - 1;
                if (left > 0) {
                    row[AT_WOOD + first + kept] = woodOf(gate, k);
                    row[AT_LEFT + first + kept] = left;
                    kept++;
                }
            }
            row[AT_BURNING + gate] = kept;
        }

        int allBurning() {
            int all = 0;
            for (int g = 0; g < town.gates; g++) {
                all += burning(g);
            }
            return all;
        }

        int burningOf(int wood) {
            int all = 0;
            for (int g = 0; g < town.gates; g++) {
                for (int k = 0; k < burning(g); k++) {
                    if (woodOf(g, k) == wood) {
                        all++;
                    }
                }
            }
            return all;
        }

        int smokingGates() {
            int bits = 0;
            for (int g = 0; g < town.gates; g++) {
                if (burning(g) > 0) {
                    bits |= 1 << g;
                }
            }
            return bits;
        }

        int firesThatStandAt(int gate) {
            int fires = 0;
            for (int g = 0; g < town.gates; g++) {
                if (burning(g) > 0 && standsAt(g) == gate) {
                    fires++;
                }
            }
            return fires;
        }

        int allStored() {
            int all = 0;
            for (int k = 0; k < town.woods; k++) {
                all += stored(k);
            }
            return all;
        }

        int mostStored() {
            int best = 0;
            for (int k = 1; k < town.woods; k++) {
                if (stored(k) > stored(best)) {
                    best = k;
                }
            }
            return best;
        }

        int comersThat(int how) {
            int many = 0;
            for (int c = 0; c < town.comers; c++) {
                if (came(c) == how) {
                    many++;
                }
            }
            return many;
        }
    }

    /** What was ahead of each WORK that can be undone. */
    private static final class History {
        private final int[][] rows = new int[MOST_WORKS][Scene.SIZE];
        int size;

        void push(Scene scene) {
            if (size < MOST_WORKS) {
                scene.saveTo(rows[size]);
                size++;
            }
        }

        void pop(Scene scene) {
            if (size > 0) {
                size--;
                scene.loadFrom(rows[size]);
            }
        }

        void copyFrom(History other) {
            size = other.size;
            for (int i = 0; i < size; i++) {
                System.arraycopy(other.rows[i], 0, rows[i], 0, Scene.SIZE);
            }
        }
    }

    /** KEEPS, by trying 0, 1 and 2 logs HOUR by HOUR, as far as fewer logs than the best ones are laid. */
    private static final class Keeping {
        private final Scene scene;
        private final int[][] rows = new int[KEEPS_HOURS][Scene.SIZE];
        private int gate;
        private int wood;
        private int hours;
        private int bits;
        int fewest;
        int digits;

        Keeping(Scene scene) {
            this.scene = scene;
        }

        void search(int atGate, int byWood, int inHours, int shutBits) {
            gate = atGate;
            wood = byWood;
            hours = Math.min(inHours, KEEPS_HOURS);
            bits = shutBits;
            fewest = NONE;
            digits = NONE;
            tryFrom(0, 0, 0);
        }

        private void tryFrom(int at, int laid, int told) {
            if (at >= hours) {
                fewest = laid;
                digits = told;
                return;
            }
            scene.saveTo(rows[at]);
            for (int many = 0; many <= 2 && (fewest == NONE || laid + many < fewest); many++) {
                scene.loadFrom(rows[at]);
                if (many > 0 && !scene.lay(gate, wood)) {
                    return;
                }
                scene.saveTo(rows[at]);
                if (scene.isShut(gate) == ((bits >> at & 1) == 1)) {
                    scene.pass();
                    tryFrom(at + 1, laid + many, 10 * told + many);
                }
            }
        }
    }

    /** GUARD: the thief's choices are numbered by HOURS, then by GATES. */
    private static final class Watch {
        private final Scene scene;
        private final boolean[] open = new boolean[GUARD_HOURS * MOST_GATES];
        private final int[] mostByKeeper = new int[MOST_GATES];
        private int gates;
        private int choices;
        int rests;
        int first;
        int has;

        Watch(Scene scene) {
            this.scene = scene;
        }

        void play(int hours) {
            gates = scene.town.gates;
            choices = gates * Math.min(hours, GUARD_HOURS);
            seeOpenGates();
            for (int keeper = 0; keeper < gates; keeper++) {
                mostByKeeper[keeper] = mostOfThief(keeper);
            }
            rests = 0;
            first = NONE;
            has = 0;
            for (int choice = 0; choice < choices; choice++) {
                findRests(choice, leastOfThief(choice));
            }
        }

        private void seeOpenGates() {
            for (int from = 0; from < choices && gates > 0; from += gates) {
                for (int g = 0; g < gates; g++) {
                    open[from + g] = !scene.isShut(g);
                }
                scene.pass();
            }
        }

        private int thiefHas(int choice, int keeper) {
            if (gates > 0 && choice % gates == keeper) {
                return -2;
            }
            return open[choice] ? 3 : 0;
        }

        private int mostOfThief(int keeper) {
            int most = -2;
            for (int choice = 0; choice < choices; choice++) {
                most = Math.max(most, thiefHas(choice, keeper));
            }
            return most;
        }

        private int leastOfThief(int choice) {
            int least = 3;
            for (int keeper = 0; keeper < gates; keeper++) {
                least = Math.min(least, thiefHas(choice, keeper));
            }
            return least;
        }

        private void findRests(int choice, int least) {
            for (int keeper = 0; keeper < gates; keeper++) {
                int got = thiefHas(choice, keeper);
                if (got == least && got == mostByKeeper[keeper]) {
                    if (rests == 0) {
                        first = 100 * (choice / gates) + 10 * (choice % gates) + keeper;
                        has = got;
                    }
                    rests++;
                }
            }
        }
    }

    /** DAYS by a SEED. */
    private static final class Days {
        private final Scene scene;
        private int seed;
        int laid;
        int rainy;

        Days(Scene scene) {
            this.scene = scene;
        }

        void run(int firstSeed, int q, int hours) {
            seed = firstSeed;
            laid = 0;
            rainy = 0;
            for (int t = 0; t < hours; t++) {
                scene.setRainDrawn(draw(16) < q);
                rainy += scene.rainNow();
                layOnEmptyFires();
                scene.pass();
            }
        }

        private int draw(int by) {
            seed = seed * 1103515245 + 12345;
            int bits = seed >> 16 & 32767;
            return by > 0 ? bits % by : 0;
        }

        private void layOnEmptyFires() {
            if (scene.town.woods <= 0) {
                return;
            }
            for (int g = 0; g < scene.town.gates; g++) {
                if (scene.burning(g) == 0 && scene.lay(g, scene.mostStored())) {
                    laid++;
                }
            }
        }
    }
}
