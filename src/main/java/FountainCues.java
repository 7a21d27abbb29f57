/**
 * Fountain show valves with cues, wind cut and pump limits.
 *
 * All rows are made with the object and used again, so that a call makes nothing but what it throws.
 */
public final class FountainCues {
    public static final int NONE = -1;

    private static final int JETS = 8;
    private static final int JETS_OF_PUMP = 4;
    private static final int PUMPS = 2;
    private static final int MOST_PARTS = 10;
    private static final int MOST_SIZE = 20;
    private static final int MOST_COLOUR = 3;
    private static final int MOST_LIMIT = 2000;
    private static final int MOST_WIND = 20;
    private static final int MOST_FILL = 9999;
    private static final int MOST_WATER = 99999;
    private static final int MOST_CUES = 16;
    private static final int LAST_TICK = 999;
    private static final int MOST_PLAYED = 100;
    private static final int MOST_FORESEEN = 500;
    private static final int MOST_CODES = 60;
    private static final int MOST_SAVES = 6;

    private static final int SETTINGS = 3;
    private static final int CALM_WIND = 0;
    private static final int LOST_HUNDREDTHS = 1;
    private static final int VALVE_STEP = 2;
    private static final int[] LEAST_SETTING = {0, 0, 1};
    private static final int[] MOST_SETTING = {20, 50, 10};

    private static final int NOT_REFUSED = 0;
    private static final int TICK_IS_OVER = 1;
    private static final int CUES_ARE_FULL = 2;
    private static final int CUE_IS_DOUBLE = 3;
    private static final int PUMP_IS_OVERASKED = 4;

    private final Show show = new Show();
    private final Show trial = new Show();
    private final Saves saves = new Saves();
    private final CueText text = new CueText();

    public FountainCues() {
    }

    // ---- the fountain

    public int jet(int jet, int size, int colour) throws IndexOutOfBoundsException, IllegalArgumentException {
        needJet(jet);
        needWithin(size, 1, MOST_SIZE);
        needWithin(colour, 0, MOST_COLOUR);
        saves.keep(show);
        int previous = show.fountain.sizes[jet];
        show.fountain.sizes[jet] = size;
        show.fountain.colours[jet] = colour;
        return previous;
    }

    public int aim(int jet, int aim) throws IndexOutOfBoundsException, IllegalArgumentException {
        needJet(jet);
        needWithin(aim, 0, MOST_PARTS);
        saves.keep(show);
        int previous = show.fountain.aims[jet];
        show.fountain.aims[jet] = aim;
        return previous;
    }

    public int pump(int pump, int limit) throws IndexOutOfBoundsException, IllegalArgumentException {
        needPump(pump);
        needWithin(limit, 0, MOST_LIMIT);
        saves.keep(show);
        int previous = show.fountain.limits[pump];
        show.fountain.limits[pump] = limit;
        return previous;
    }

    public int wind(int wind) throws IllegalArgumentException {
        needWithin(wind, 0, MOST_WIND);
        saves.keep(show);
        int previous = show.fountain.wind;
        show.fountain.wind = wind;
        return previous;
    }

    public int fill(int water) throws IllegalArgumentException, IllegalStateException {
        needWithin(water, 1, MOST_FILL);
        if (show.water + water > MOST_WATER) {
            throw new IllegalStateException("the basin would run over");
        }
        saves.keep(show);
        show.water += water;
        return show.water;
    }

    public int set(int setting, int value) throws IndexOutOfBoundsException, IllegalArgumentException {
        needSetting(setting);
        needWithin(value, LEAST_SETTING[setting], MOST_SETTING[setting]);
        saves.keep(show);
        int previous = show.fountain.settings[setting];
        show.fountain.settings[setting] = value;
        return previous;
    }

    // ---- cues, ticks

    public int cue(int tick, int jet, int aim)
            throws IndexOutOfBoundsException, IllegalArgumentException, IllegalStateException {
        needCue(tick, jet, aim);
        if (show.reasonAgainst(tick, jet, aim) != NOT_REFUSED) {
            throw new IllegalStateException("the cue is refused");
        }
        saves.keep(show);
        return show.cues.add(tick, jet, aim);
    }

    public int drop(int cue) throws IndexOutOfBoundsException {
        int place = show.cues.placeOf(cue);
        if (place == NONE) {
            throw new IndexOutOfBoundsException("no such cue");
        }
        saves.keep(show);
        show.cues.removeAt(place);
        return show.cues.size;
    }

    public int play(int ticks) throws IllegalArgumentException {
        needWithin(ticks, 1, MOST_PLAYED);
        saves.keep(show);
        int lostBefore = show.lost;
        show.playTicks(ticks);
        return show.lost - lostBefore;
    }

    // ---- texts

    public int append(int code) throws IllegalArgumentException, IllegalStateException {
        needWithin(code, 33, 126);
        if (text.length >= MOST_CODES) {
            throw new IllegalStateException("the buffer is full");
        }
        text.codes[text.length] = code;
        text.length++;
        return text.length;
    }

    public int clearBuffer() {
        int previous = text.length;
        text.length = 0;
        return previous;
    }

    public int firstError() {
        return text.placeOfError();
    }

    public int cueAll() throws IllegalArgumentException {
        if (!text.isComplete()) {
            throw new IllegalArgumentException("the buffer is not complete cues");
        }
        saves.keep(show);
        int added = show.addCuesOf(text);
        text.length = 0;
        return added;
    }

    public int undo() throws IllegalStateException {
        if (saves.size == 0) {
            throw new IllegalStateException("there is no saved state");
        }
        saves.restore(show);
        return saves.size;
    }

    // ---- looks; nothing is changed

    public int jetOf(int jet, int what) throws IndexOutOfBoundsException, IllegalArgumentException {
        needJet(jet);
        needWithin(what, 0, 7);
        return show.numberOfJet(jet, what);
    }

    public int pumpOf(int pump, int what) throws IndexOutOfBoundsException, IllegalArgumentException {
        needPump(pump);
        needWithin(what, 0, 2);
        switch (what) {
            case 0: return show.fountain.limits[pump];
            case 1: return show.fountain.pumpAsks(pump);
            default: return show.fountain.pumpGives(pump);
        }
    }

    public int cueOf(int place, int what) throws IllegalArgumentException {
        if (place < 0) {
            throw new IllegalArgumentException("no place is below 0");
        }
        needWithin(what, 0, 3);
        return show.cues.numberAt(place, what);
    }

    public int count(int what) throws IllegalArgumentException {
        needWithin(what, 0, 9);
        switch (what) {
            case 0: return show.tick;
            case 1: return show.cues.size;
            case 2: return show.fountain.wind;
            case 3: return show.water;
            case 4: return show.lost;
            case 5: return show.dry;
            case 6: return show.fountain.lampsThatBurn();
            case 7: return show.cuesDone;
            case 8: return show.highest;
            default: return saves.size;
        }
    }

    public int setting(int setting) throws IndexOutOfBoundsException {
        needSetting(setting);
        return show.fountain.settings[setting];
    }

    public int refusal(int tick, int jet, int aim) throws IndexOutOfBoundsException, IllegalArgumentException {
        needCue(tick, jet, aim);
        return show.reasonAgainst(tick, jet, aim);
    }

    // ---- what would be; nothing is changed

    public int ifPlayed(int ticks, int what) throws IllegalArgumentException {
        needWithin(ticks, 1, MOST_PLAYED);
        needWithin(what, 0, 3);
        trial.copyFrom(show);
        trial.countAnew();
        trial.playTicks(ticks);
        switch (what) {
            case 0: return trial.lost;
            case 1: return trial.dry;
            case 2: return trial.highest;
            default: return trial.lampTicksOfColour(0);
        }
    }

    public int mostAim(int tick, int jet) throws IndexOutOfBoundsException, IllegalArgumentException {
        needCue(tick, jet, 0);
        for (int aim = MOST_PARTS; aim >= 0; aim--) {
            if (show.reasonAgainst(tick, jet, aim) == NOT_REFUSED) {
                return aim;
            }
        }
        return NONE;
    }

    public int fits(int tick, int jet, int aim) throws IndexOutOfBoundsException, IllegalArgumentException {
        needCue(tick, jet, aim);
        int at = Math.max(tick, show.tick);
        for (int looks = 0; looks <= LAST_TICK && at <= LAST_TICK; looks++) {
            if (show.reasonAgainst(at, jet, aim) == NOT_REFUSED) {
                return at;
            }
            at = show.cues.nextChangeBehind(at);
        }
        return NONE;
    }

    public int dryIn() {
        trial.copyFrom(show);
        trial.countAnew();
        for (int ticks = 1; ticks <= MOST_FORESEEN; ticks++) {
            trial.playTicks(1);
            if (trial.dry > 0) {
                return ticks;
            }
        }
        return NONE;
    }

    public double share() {
        int asked = 0;
        int given = 0;
        for (int pump = 0; pump < PUMPS; pump++) {
            asked += show.fountain.pumpAsks(pump);
            given += show.fountain.pumpGives(pump);
        }
        return asked > 0 ? (double) given / (double) asked : 1.0;
    }

    public long digest() {
        long hash = 3121;
        for (int what = 0; what <= 9; what++) {
            hash = mixed(hash, count(what));
        }
        for (int setting = 0; setting < SETTINGS; setting++) {
            hash = mixed(hash, setting(setting));
        }
        hash = mixedWithJetsAndPumps(hash);
        hash = mixedWithCues(hash);
        // Done right here, since playing goes deep and calls are to stand at most eight deep.
        for (int what = 0; what <= 3; what++) {
            hash = mixed(hash, ifPlayed(9, what));
        }
        for (int jet = 0; jet < JETS; jet++) {
            hash = mixed(hash, mostAim(20, jet));
            hash = mixed(hash, fits(20, jet, MOST_PARTS));
        }
        hash = mixed(hash, dryIn());
        hash = mixed(hash, bitsOf(share()));
        hash = mixed(hash, text.length);
        for (int i = 0; i < text.length && i < MOST_CODES; i++) {
            hash = mixed(hash, text.codes[i]);
        }
        return hash;
    }

    private long mixedWithJetsAndPumps(long start) {
        long hash = start;
        for (int jet = 0; jet < JETS; jet++) {
            for (int what = 0; what <= 7; what++) {
                hash = mixed(hash, jetOf(jet, what));
            }
        }
        for (int pump = 0; pump < PUMPS; pump++) {
            for (int what = 0; what <= 2; what++) {
                hash = mixed(hash, pumpOf(pump, what));
            }
        }
        return hash;
    }

    private long mixedWithCues(long start) {
        long hash = start;
        for (int place = 0; place < show.cues.size; place++) {
            for (int what = 0; what <= 3; what++) {
                hash = mixed(hash, cueOf(place, what));
            }
        }
        return hash;
    }

    private static long mixed(long hash, long value) {
        return 31 * hash + value;
    }

    /** The language leaves no Double.doubleToLongBits, so the bits of a share, 0.0 to 1.0, are put together here. */
    private static long bitsOf(double share) {
        if (share <= 0.0) {
            return 0L;
        }
        long exponent = 1023;
        double scaled = share;
        for (int doublings = 0; doublings < 1022 && scaled < 1.0; doublings++) {
            scaled *= 2.0;
            exponent--;
        }
        long fraction = (long) ((scaled - 1.0) * 4503599627370496.0);
        return (exponent << 52) | fraction;
    }

    private static void needJet(int jet) {
        if (jet < 0 || jet >= JETS) {
            throw new IndexOutOfBoundsException("no such jet");
        }
    }

    private static void needPump(int pump) {
        if (pump < 0 || pump >= PUMPS) {
            throw new IndexOutOfBoundsException("no such pump");
        }
    }

    private static void needSetting(int setting) {
        if (setting < 0 || setting >= SETTINGS) {
            throw new IndexOutOfBoundsException("no such setting");
        }
    }

    private static void needWithin(int value, int least, int most) {
        if (value < least || value > most) {
            throw new IllegalArgumentException("out of range");
        }
    }

    private static void needCue(int tick, int jet, int aim) {
        needJet(jet);
        needWithin(tick, 0, LAST_TICK);
        needWithin(aim, 0, MOST_PARTS);
    }

    private static int quotient(int dividend, int divisor) {
        return divisor == 0 ? 0 : dividend / divisor;
    }

    private static void copyRow(int[] from, int[] to) {
        for (int i = 0; i < from.length && i < to.length; i++) {
            to[i] = from[i];
        }
    }

    /** The jets with their pumps, the wind and the settings: what decides how much each jet gets. */
    private static final class Fountain {
        final int[] sizes = new int[JETS];
        final int[] colours = new int[JETS];
        final int[] valves = new int[JETS];
        final int[] aims = new int[JETS];
        final int[] limits = new int[PUMPS];
        final int[] settings = new int[SETTINGS];
        int wind;

        Fountain() {
            for (int jet = 0; jet < JETS; jet++) {
                sizes[jet] = 5;
            }
            for (int pump = 0; pump < PUMPS; pump++) {
                limits[pump] = 300;
            }
            settings[CALM_WIND] = 4;
            settings[LOST_HUNDREDTHS] = 2;
            settings[VALVE_STEP] = 3;
        }

        void copyFrom(Fountain other) {
            copyRow(other.sizes, sizes);
            copyRow(other.colours, colours);
            copyRow(other.valves, valves);
            copyRow(other.aims, aims);
            copyRow(other.limits, limits);
            copyRow(other.settings, settings);
            wind = other.wind;
        }

        void moveValves() {
            int step = settings[VALVE_STEP];
            for (int jet = 0; jet < JETS; jet++) {
                int gap = aims[jet] - valves[jet];
                valves[jet] += Math.max(-step, Math.min(step, gap));
            }
        }

        int asks(int jet) {
            return sizes[jet] * valves[jet];
        }

        int pumpAsks(int pump) {
            int asked = 0;
            for (int i = 0; i < JETS_OF_PUMP; i++) {
                asked += asks(pump * JETS_OF_PUMP + i);
            }
            return asked;
        }

        int gets(int jet) {
            return partOf(jet, pumpAsks(jet / JETS_OF_PUMP));
        }

        int partOf(int jet, int askedOfPump) {
            int limit = limits[jet / JETS_OF_PUMP];
            int given = asks(jet);
            if (askedOfPump > limit) {
                given = quotient(given * limit, askedOfPump);
            }
            return Math.min(given, highestInWind() * sizes[jet]);
        }

        int pumpGives(int pump) {
            int asked = pumpAsks(pump);
            int given = 0;
            for (int i = 0; i < JETS_OF_PUMP; i++) {
                given += partOf(pump * JETS_OF_PUMP + i, asked);
            }
            return given;
        }

        int highestInWind() {
            int calm = settings[CALM_WIND];
            return wind > calm ? Math.max(0, MOST_PARTS + calm - wind) : MOST_PARTS;
        }

        int heightWith(int jet, int given) {
            return quotient(given, sizes[jet]);
        }

        int lampsThatBurn() {
            int burning = 0;
            for (int jet = 0; jet < JETS; jet++) {
                if (heightWith(jet, gets(jet)) > 0) {
                    burning++;
                }
            }
            return burning;
        }

        int lossOf(int taken) {
            return taken * settings[LOST_HUNDREDTHS] / 100 + taken * wind / 100;
        }
    }

    /** The cues that wait, by their ticks, of several by their numbers. */
    private static final class Cues {
        final int[] numbers = new int[MOST_CUES];
        final int[] ticks = new int[MOST_CUES];
        final int[] jets = new int[MOST_CUES];
        final int[] aims = new int[MOST_CUES];
        int size;
        int nextNumber;

        void copyFrom(Cues other) {
            copyRow(other.numbers, numbers);
            copyRow(other.ticks, ticks);
            copyRow(other.jets, jets);
            copyRow(other.aims, aims);
            size = other.size;
            nextNumber = other.nextNumber;
        }

        boolean isFull() {
            return size >= MOST_CUES;
        }

        int add(int tick, int jet, int aim) {
            if (isFull()) {
                return NONE;
            }
            // A new cue has the greatest number, so it stands behind all of its own tick.
            int place = size;
            while (place > 0 && ticks[place - 1] > tick) {
                move(place - 1, place);
                place--;
            }
            int number = nextNumber;
            numbers[place] = number;
            ticks[place] = tick;
            jets[place] = jet;
            aims[place] = aim;
            size++;
            nextNumber++;
            return number;
        }

        void removeAt(int place) {
            if (place < 0 || place >= size) {
                return;
            }
            for (int i = place; i + 1 < size; i++) {
                move(i + 1, i);
            }
            size--;
        }

        void move(int from, int to) {
            numbers[to] = numbers[from];
            ticks[to] = ticks[from];
            jets[to] = jets[from];
            aims[to] = aims[from];
        }

        int placeOf(int number) {
            for (int place = 0; place < size; place++) {
                if (numbers[place] == number) {
                    return place;
                }
            }
            return NONE;
        }

        boolean hasAt(int tick, int jet) {
            for (int place = 0; place < size; place++) {
                if (ticks[place] == tick && jets[place] == jet) {
                    return true;
                }
            }
            return false;
        }

        int aimBehind(int tick, int jet, int aimNow) {
            int aim = aimNow;
            for (int place = 0; place < size && ticks[place] <= tick; place++) {
                if (jets[place] == jet) {
                    aim = aims[place];
                }
            }
            return aim;
        }

        /** What speaks against a cue changes at the ticks of cues and right behind them, and nowhere else. */
        int nextChangeBehind(int tick) {
            for (int place = 0; place < size; place++) {
                if (ticks[place] == tick) {
                    return tick + 1;
                }
                if (ticks[place] > tick) {
                    return ticks[place];
                }
            }
            return LAST_TICK + 1;
        }

        int numberAt(int place, int what) {
            if (place < 0 || place >= size) {
                return NONE;
            }
            switch (what) {
                case 0: return numbers[place];
                case 1: return ticks[place];
                case 2: return jets[place];
                default: return aims[place];
            }
        }
    }

    /** All that undo brings back. */
    private static final class Show {
        final Fountain fountain = new Fountain();
        final Cues cues = new Cues();
        final int[] burned = new int[JETS];
        final int[] flow = new int[JETS];
        int water = 5000;
        int tick;
        int lost;
        int dry;
        int cuesDone;
        int highest;

        void copyFrom(Show other) {
            fountain.copyFrom(other.fountain);
            cues.copyFrom(other.cues);
            copyRow(other.burned, burned);
            water = other.water;
            tick = other.tick;
            lost = other.lost;
            dry = other.dry;
            cuesDone = other.cuesDone;
            highest = other.highest;
        }

        void countAnew() {
            lost = 0;
            dry = 0;
            highest = 0;
            for (int jet = 0; jet < JETS; jet++) {
                burned[jet] = 0;
            }
        }

        void playTicks(int ticks) {
            for (int i = 0; i < ticks; i++) {
                doCues();
                fountain.moveValves();
                playJets();
                tick++;
            }
        }

        void doCues() {
            for (int i = 0; i < MOST_CUES && cues.size > 0 && cues.ticks[0] == tick; i++) {
                int jet = cues.jets[0];
                if (jet >= 0 && jet < JETS) {
                    fountain.aims[jet] = cues.aims[0];
                }
                cues.removeAt(0);
                cuesDone++;
            }
        }

        int measureFlow() {
            int taken = 0;
            for (int pump = 0; pump < PUMPS; pump++) {
                int asked = fountain.pumpAsks(pump);
                for (int i = 0; i < JETS_OF_PUMP; i++) {
                    int jet = pump * JETS_OF_PUMP + i;
                    flow[jet] = fountain.partOf(jet, asked);
                    taken += flow[jet];
                }
            }
            return taken;
        }

        void playJets() {
            int taken = measureFlow();
            if (water < taken) {
                dry++;
                return;
            }
            int loss = fountain.lossOf(taken);
            water -= loss;
            lost += loss;
            for (int jet = 0; jet < JETS; jet++) {
                int height = fountain.heightWith(jet, flow[jet]);
                highest = Math.max(highest, height);
                if (height > 0) {
                    burned[jet]++;
                }
            }
        }

        int reasonAgainst(int at, int jet, int aim) {
            if (at < tick) {
                return TICK_IS_OVER;
            }
            if (cues.isFull()) {
                return CUES_ARE_FULL;
            }
            if (cues.hasAt(at, jet)) {
                return CUE_IS_DOUBLE;
            }
            return asksTooMuch(at, jet, aim) ? PUMP_IS_OVERASKED : NOT_REFUSED;
        }

        boolean asksTooMuch(int at, int jet, int aim) {
            int pump = jet / JETS_OF_PUMP;
            int asked = 0;
            for (int i = 0; i < JETS_OF_PUMP; i++) {
                int other = pump * JETS_OF_PUMP + i;
                int parts = other == jet ? aim : cues.aimBehind(at, other, fountain.aims[other]);
                asked += fountain.sizes[other] * parts;
            }
            return asked > fountain.limits[pump];
        }

        int addCuesOf(CueText text) {
            int added = 0;
            int at = 0;
            int jet = NONE;
            int aim = 0;
            for (int i = 0; i <= text.length; i++) {
                int code = text.codeAt(i);
                if (CueText.isDigit(code) && jet == NONE) {
                    at = at * 10 + (code - '0');
                } else if (CueText.isDigit(code)) {
                    aim = aim * 10 + (code - '0');
                } else if (CueText.isJet(code)) {
                    jet = code - 'a';
                } else if (code == ';' || code == NONE) {
                    added += addIfNotRefused(at, jet, aim) ? 1 : 0;
                    at = 0;
                    jet = NONE;
                    aim = 0;
                }
            }
            return added;
        }

        boolean addIfNotRefused(int at, int jet, int aim) {
            if (jet == NONE || reasonAgainst(at, jet, aim) != NOT_REFUSED) {
                return false;
            }
            cues.add(at, jet, aim);
            return true;
        }

        int numberOfJet(int jet, int what) {
            switch (what) {
                case 0: return fountain.sizes[jet];
                case 1: return fountain.colours[jet];
                case 2: return fountain.valves[jet];
                case 3: return fountain.aims[jet];
                case 4: return fountain.asks(jet);
                case 5: return fountain.gets(jet);
                case 6: return fountain.heightWith(jet, fountain.gets(jet));
                default: return burned[jet];
            }
        }

        int lampTicksOfColour(int colour) {
            int ticks = 0;
            for (int jet = 0; jet < JETS; jet++) {
                if (fountain.colours[jet] == colour) {
                    ticks += burned[jet];
                }
            }
            return ticks;
        }
    }

    /** The states for undo, the oldest first. */
    private static final class Saves {
        final Show[] states = new Show[MOST_SAVES];
        int size;

        Saves() {
            for (int i = 0; i < MOST_SAVES; i++) {
                states[i] = new Show();
            }
        }

        void keep(Show show) {
            if (size >= MOST_SAVES) {
                dropOldest();
            }
            Show free = states[size];
            if (free != null) {
                free.copyFrom(show);
                size++;
            }
        }

        /** The oldest state's rows go to the end, to be written anew: a call makes no rows. */
        void dropOldest() {
            Show oldest = states[0];
            for (int i = 0; i + 1 < MOST_SAVES; i++) {
                states[i] = states[i + 1];
            }
            states[MOST_SAVES - 1] = oldest;
            size = MOST_SAVES - 1;
        }

        void restore(Show show) {
            if (size <= 0) {
                return;
            }
            size--;
            Show latest = states[size];
            if (latest != null) {
                show.copyFrom(latest);
            }
        }
    }

    /** The buffer, read from left to right by what may stand next. */
    private static final class CueText {
        static final int WRONG = -1;
        static final int TICK_FIRST = 0;
        static final int TICK_SECOND = 1;
        static final int TICK_THIRD = 2;
        static final int TICK_END = 3;
        static final int JET = 4;
        static final int AIM = 5;
        static final int AIM_ONE = 6;
        static final int AIM_END = 7;

        final int[] codes = new int[MOST_CODES];
        int length;

        int codeAt(int place) {
            return place >= 0 && place < length && place < MOST_CODES ? codes[place] : NONE;
        }

        int placeOfError() {
            int state = TICK_FIRST;
            for (int i = 0; i < length; i++) {
                state = stateBehind(state, codeAt(i));
                if (state == WRONG) {
                    return i;
                }
            }
            return length;
        }

        boolean isComplete() {
            int state = TICK_FIRST;
            for (int i = 0; i < length; i++) {
                state = stateBehind(state, codeAt(i));
            }
            return state == AIM_ONE || state == AIM_END;
        }

        static int stateBehind(int state, int code) {
            switch (state) {
                case TICK_FIRST: return code == '0' ? TICK_END : isDigit(code) ? TICK_SECOND : WRONG;
                case TICK_SECOND: return code == '@' ? JET : isDigit(code) ? TICK_THIRD : WRONG;
                case TICK_THIRD: return code == '@' ? JET : isDigit(code) ? TICK_END : WRONG;
                case TICK_END: return code == '@' ? JET : WRONG;
                case JET: return isJet(code) ? AIM : WRONG;
                case AIM: return code == '1' ? AIM_ONE : isDigit(code) ? AIM_END : WRONG;
                case AIM_ONE: return code == '0' ? AIM_END : code == ';' ? TICK_FIRST : WRONG;
                case AIM_END: return code == ';' ? TICK_FIRST : WRONG;
                default: return WRONG;
            }
        }

        static boolean isDigit(int code) {
            return code >= '0' && code <= '9';
        }

        static boolean isJet(int code) {
            return code >= 'a' && code <= 'h';
        }
    }
}
