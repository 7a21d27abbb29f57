import java.util.ArrayDeque;
import java.util.ArrayList;
import java.util.Comparator;
import java.util.Deque;
import java.util.List;
import java.util.regex.Matcher;
import java.util.regex.Pattern;

/**
 * The document once more, by other means than the class: whole copies, lists, regular expressions, and every tick
 * looked at by itself. Arguments are thought to be in range, refusals and full buffers are thrown.
 */
final class Model {
    private static final String PART = "(0|[1-9][0-9]{0,2})@[a-h](10|[0-9])";
    private static final Pattern TEXT = Pattern.compile(PART + "(;" + PART + ")*");

    private record Cue(int number, int tick, int jet, int aim) {
        int part(int what) {
            return new int[] {number, tick, jet, aim}[what];
        }
    }

    private static final class Jet {
        int size = 5;
        int colour = 0;
        int parts = 0;
        int aim = 0;
        int burned = 0;

        Jet copy() {
            Jet jet = new Jet();
            jet.size = size;
            jet.colour = colour;
            jet.parts = parts;
            jet.aim = aim;
            jet.burned = burned;
            return jet;
        }
    }

    private static final class State {
        final List<Jet> jets = new ArrayList<>();
        List<Cue> cues = new ArrayList<>();
        int[] limits = {300, 300};
        int[] settings = {4, 2, 3};
        int wind = 0;
        int water = 5000;
        int tick = 0;
        int lost = 0;
        int dry = 0;
        int done = 0;
        int highest = 0;
        int numbers = 0;

        State copy() {
            State s = new State();
            for (Jet jet : jets) {
                s.jets.add(jet.copy());
            }
            s.cues = new ArrayList<>(cues);
            s.limits = limits.clone();
            s.settings = settings.clone();
            s.wind = wind;
            s.water = water;
            s.tick = tick;
            s.lost = lost;
            s.dry = dry;
            s.done = done;
            s.highest = highest;
            s.numbers = numbers;
            return s;
        }

        int asks(int jet) {
            return jets.get(jet).size * jets.get(jet).parts;
        }

        int pumpAsks(int pump) {
            return asks(4 * pump) + asks(4 * pump + 1) + asks(4 * pump + 2) + asks(4 * pump + 3);
        }

        int gets(int jet) {
            int all = pumpAsks(jet / 4);
            int limit = limits[jet / 4];
            int gets = all > limit ? asks(jet) * limit / all : asks(jet);
            if (wind > settings[0]) {
                int most = 10 + settings[0] - wind;
                gets = Math.min(gets, (most < 0 ? 0 : most) * jets.get(jet).size);
            }
            return gets;
        }

        int pumpGives(int pump) {
            return gets(4 * pump) + gets(4 * pump + 1) + gets(4 * pump + 2) + gets(4 * pump + 3);
        }

        int height(int jet) {
            return gets(jet) / jets.get(jet).size;
        }

        /** One tick; tells the greatest height, and how many lamps of the colour 0 burned, and if it was dry. */
        int[] playOne() {
            for (Cue cue : List.copyOf(cues)) {
                if (cue.tick == tick) {
                    jets.get(cue.jet).aim = cue.aim;
                    cues.remove(cue);
                    done++;
                }
            }
            for (Jet jet : jets) {
                for (int step = 0; step < settings[2]; step++) {
                    jet.parts += Integer.compare(jet.aim, jet.parts);
                }
            }
            tick++;
            int all = pumpGives(0) + pumpGives(1);
            if (all > water) {
                dry++;
                return new int[] {0, 0, 1};
            }
            int loss = all * settings[1] / 100;
            if (wind > 0) {
                loss += all * wind / 100;
            }
            water -= loss;
            lost += loss;
            int greatest = 0;
            int lamps = 0;
            for (int j = 0; j < 8; j++) {
                greatest = Math.max(greatest, height(j));
                if (height(j) > 0) {
                    jets.get(j).burned++;
                    lamps += jets.get(j).colour == 0 ? 1 : 0;
                }
            }
            highest = Math.max(highest, greatest);
            return new int[] {greatest, lamps, 0};
        }

        int refusal(int at, int jet, int aim) {
            if (at < tick) {
                return 1;
            }
            if (cues.size() == 16) {
                return 2;
            }
            if (cues.stream().anyMatch(c -> c.tick == at && c.jet == jet)) {
                return 3;
            }
            int[] aims = jets.stream().mapToInt(j -> j.aim).toArray();
            for (Cue cue : cues) {
                if (cue.tick <= at) {
                    aims[cue.jet] = cue.aim;
                }
            }
            aims[jet] = aim;
            int asked = 0;
            for (int j = 0; j < 8; j++) {
                asked += j / 4 == jet / 4 ? aims[j] * jets.get(j).size : 0;
            }
            return asked > limits[jet / 4] ? 4 : 0;
        }

        int addCue(int at, int jet, int aim) {
            cues.add(new Cue(numbers, at, jet, aim));
            cues.sort(Comparator.comparingInt(Cue::tick).thenComparingInt(Cue::number));
            return numbers++;
        }
    }

    private State now = new State();
    private final Deque<State> saved = new ArrayDeque<>();
    private String text = "";

    Model() {
        for (int i = 0; i < 8; i++) {
            now.jets.add(new Jet());
        }
    }

    private void save() {
        saved.addLast(now.copy());
        if (saved.size() > 6) {
            saved.removeFirst();
        }
    }

    int jet(int jet, int size, int colour) {
        save();
        Jet changed = now.jets.get(jet);
        int previous = changed.size;
        changed.size = size;
        changed.colour = colour;
        return previous;
    }

    int aim(int jet, int aim) {
        save();
        int previous = now.jets.get(jet).aim;
        now.jets.get(jet).aim = aim;
        return previous;
    }

    int pump(int pump, int limit) {
        save();
        int previous = now.limits[pump];
        now.limits[pump] = limit;
        return previous;
    }

    int wind(int wind) {
        save();
        int previous = now.wind;
        now.wind = wind;
        return previous;
    }

    int fill(int water) {
        if (now.water + water > 99999) {
            throw new IllegalStateException();
        }
        save();
        now.water += water;
        return now.water;
    }

    int set(int setting, int value) {
        save();
        int previous = now.settings[setting];
        now.settings[setting] = value;
        return previous;
    }

    int cue(int tick, int jet, int aim) {
        if (refusal(tick, jet, aim) != 0) {
            throw new IllegalStateException();
        }
        save();
        return now.addCue(tick, jet, aim);
    }

    int drop(int number) {
        if (now.cues.stream().noneMatch(c -> c.number == number)) {
            throw new IndexOutOfBoundsException();
        }
        save();
        now.cues.removeIf(c -> c.number == number);
        return now.cues.size();
    }

    int play(int ticks) {
        save();
        int water = now.water;
        for (int i = 0; i < ticks; i++) {
            now.playOne();
        }
        return water - now.water;
    }

    int append(int code) {
        if (text.length() == 60) {
            throw new IllegalStateException();
        }
        text += (char) code;
        return text.length();
    }

    int clearBuffer() {
        int previous = text.length();
        text = "";
        return previous;
    }

    int firstError() {
        for (int i = 0; i < text.length(); i++) {
            Matcher matcher = TEXT.matcher(text.substring(0, i + 1));
            if (!matcher.matches() && !matcher.hitEnd()) {
                return i;
            }
        }
        return text.length();
    }

    int cueAll() {
        if (!TEXT.matcher(text).matches()) {
            throw new IllegalArgumentException();
        }
        save();
        int added = 0;
        for (String part : text.split(";")) {
            int tick = Integer.parseInt(part.substring(0, part.indexOf('@')));
            int jet = part.charAt(part.indexOf('@') + 1) - 'a';
            int aim = Integer.parseInt(part.substring(part.indexOf('@') + 2));
            if (refusal(tick, jet, aim) == 0) {
                now.addCue(tick, jet, aim);
                added++;
            }
        }
        text = "";
        return added;
    }

    int undo() {
        if (saved.isEmpty()) {
            throw new IllegalStateException();
        }
        now = saved.removeLast();
        return saved.size();
    }

    int jetOf(int jet, int what) {
        Jet seen = now.jets.get(jet);
        return new int[] {seen.size, seen.colour, seen.parts, seen.aim, now.asks(jet), now.gets(jet), now.height(jet),
            seen.burned}[what];
    }

    int pumpOf(int pump, int what) {
        return new int[] {now.limits[pump], now.pumpAsks(pump), now.pumpGives(pump)}[what];
    }

    int cueOf(int place, int what) {
        return place < now.cues.size() ? now.cues.get(place).part(what) : -1;
    }

    int count(int what) {
        int lamps = 0;
        for (int j = 0; j < 8; j++) {
            lamps += now.height(j) > 0 ? 1 : 0;
        }
        return new int[] {now.tick, now.cues.size(), now.wind, now.water, now.lost, now.dry, lamps, now.done,
            now.highest, saved.size()}[what];
    }

    int setting(int setting) {
        return now.settings[setting];
    }

    int refusal(int tick, int jet, int aim) {
        return now.refusal(tick, jet, aim);
    }

    int ifPlayed(int ticks, int what) {
        State then = now.copy();
        int[] told = new int[4];
        for (int i = 0; i < ticks; i++) {
            int[] tick = then.playOne();
            told[1] += tick[2];
            told[2] = Math.max(told[2], tick[0]);
            told[3] += tick[1];
        }
        told[0] = now.water - then.water;
        return told[what];
    }

    int mostAim(int tick, int jet) {
        int most = -1;
        for (int aim = 0; aim <= 10; aim++) {
            most = refusal(tick, jet, aim) == 0 ? aim : most;
        }
        return most;
    }

    int fits(int tick, int jet, int aim) {
        for (int at = tick; at <= 999; at++) {
            if (refusal(at, jet, aim) == 0) {
                return at;
            }
        }
        return -1;
    }

    int dryIn() {
        State then = now.copy();
        for (int i = 1; i <= 500; i++) {
            if (then.playOne()[2] == 1) {
                return i;
            }
        }
        return -1;
    }

    double share() {
        double asked = now.pumpAsks(0) + now.pumpAsks(1);
        return asked == 0 ? 1.0 : (now.pumpGives(0) + now.pumpGives(1)) / asked;
    }

    long digest() {
        List<Long> values = new ArrayList<>();
        for (int i = 0; i < 10; i++) {
            values.add((long) count(i));
        }
        for (int i = 0; i < 3; i++) {
            values.add((long) setting(i));
        }
        for (int i = 0; i < 64; i++) {
            values.add((long) jetOf(i / 8, i % 8));
        }
        for (int i = 0; i < 6; i++) {
            values.add((long) pumpOf(i / 3, i % 3));
        }
        for (int i = 0; i < 4 * now.cues.size(); i++) {
            values.add((long) cueOf(i / 4, i % 4));
        }
        for (int i = 0; i < 4; i++) {
            values.add((long) ifPlayed(9, i));
        }
        for (int i = 0; i < 8; i++) {
            values.add((long) mostAim(20, i));
            values.add((long) fits(20, i, 10));
        }
        values.add((long) dryIn());
        values.add(Double.doubleToLongBits(share()));
        values.add((long) text.length());
        text.chars().forEach(code -> values.add((long) code));
        long hash = 3121;
        for (long value : values) {
            hash = 31 * hash + value;
        }
        return hash;
    }
}
