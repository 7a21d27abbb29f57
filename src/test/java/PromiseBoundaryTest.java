import java.math.BigInteger;

/** Each line of the promises that names an argument, an answer or an exception, at the boundaries that it names. */
public final class PromiseBoundaryTest {
    private static final Class<IndexOutOfBoundsException> INDEX = Sentences.INDEX;
    private static final Class<IllegalArgumentException> ARGUMENT = Sentences.ARGUMENT;
    private static final Class<IllegalStateException> STATE = Sentences.STATE;
    private static final String NO_JET = "Throws `IndexOutOfBoundsException` if there is no such jet";
    private static final String NO_PUMP = "Throws `IndexOutOfBoundsException` if there is no such pump";
    private static final String NO_SETTING = "Throws `IndexOutOfBoundsException` if there is no such setting";
    private static final String WRONG_CUE = "Throws `IllegalArgumentException` if tick or aim is out of range";

    private static String promise = "";

    private PromiseBoundaryTest() {
    }

    public static void main(String[] args) {
        newObject();
        jet();
        aim();
        pump();
        wind();
        fill();
        set();
        cue();
        cueThrows();
        drop();
        play();
        playThrows();
        append();
        clearBuffer();
        firstError();
        cueAll();
        undo();
        jetOf();
        jetOfNumbers();
        pumpOf();
        cueOf();
        count();
        countNumbers();
        setting();
        refusal();
        ifPlayed();
        ifPlayedNumbers();
        mostAim();
        fits();
        dryIn();
        share();
        digest();
        for (int number = 1; number <= 27; number++) {
            Sentences.closeLines("Promise " + number);
        }
        Checks.close("PromiseBoundaryTest");
    }

    private static void promise(int number) {
        promise = "Promise " + number;
    }

    private static void hold(String sentence) {
        Sentences.hold(promise, sentence);
    }

    private static void due(String what, long got, long want) {
        Sentences.due(what, got, want);
    }

    private static void newObject() {
        promise(1);
        hold("Creates closed valves, without cues, with an empty buffer.");
        FountainCues x = new FountainCues();
        for (int jet = 0; jet < 8; jet++) {
            due("the valve " + jet, x.jetOf(jet, 2), 0);
        }
        due("no cue", x.count(1), 0);
        due("no place", x.cueOf(0, 0), -1);
        due("no character", x.clearBuffer(), 0);
        due("no saved state", x.count(9), 0);
        due("the first tick", x.count(0), 0);
    }

    private static void jet() {
        promise(2);
        hold("- `jet`: 0 to 7");
        for (int jet = 0; jet < 8; jet += 7) {
            FountainCues x = new FountainCues();
            x.jet(jet, 9, 1);
            for (int other = 0; other < 8; other++) {
                due("the size of " + other + " when " + jet + " changes", x.jetOf(other, 0), other == jet ? 9 : 5);
                due("the colour of " + other + " when " + jet + " changes", x.jetOf(other, 1), other == jet ? 1 : 0);
            }
        }
        hold("- `size`: 1 to 20");
        Sentences.kept(1, 20, (x, size) -> x.jet(0, size, 3), x -> x.jetOf(0, 0));
        hold("- `colour`: 0 to 3");
        Sentences.kept(0, 3, (x, colour) -> x.jet(0, 20, colour), x -> x.jetOf(0, 1));
        hold("Returns the previous size.");
        FountainCues x = new FountainCues();
        due("the first", x.jet(7, 1, 0), 5);
        due("the least", x.jet(7, 20, 0), 1);
        due("the greatest", x.jet(7, 20, 0), 20);
        hold(NO_JET);
        Sentences.refusedBeyond(0, 7, INDEX, (y, jet) -> y.jet(jet, 1, 0));
        hold("Throws `IllegalArgumentException` if size or colour is out of range");
        Sentences.refusedBeyond(1, 20, ARGUMENT, (y, size) -> y.jet(7, size, 0));
        Sentences.refusedBeyond(0, 3, ARGUMENT, (y, colour) -> y.jet(7, 1, colour));
    }

    private static void aim() {
        promise(3);
        hold("- `jet`: 0 to 7");
        for (int jet = 0; jet < 8; jet += 7) {
            FountainCues x = new FountainCues();
            x.aim(jet, 9);
            for (int other = 0; other < 8; other++) {
                due("the aim of " + other + " when " + jet + " changes", x.jetOf(other, 3), other == jet ? 9 : 0);
            }
        }
        hold("- `aim`: 0 to 10");
        Sentences.kept(0, 10, (x, aim) -> x.aim(7, aim), x -> x.jetOf(7, 3));
        hold("Returns the previous aim.");
        FountainCues x = new FountainCues();
        due("the first", x.aim(0, 10), 0);
        due("the greatest", x.aim(0, 10), 10);
        due("the same", x.aim(0, 0), 10);
        due("the least", x.aim(0, 1), 0);
        hold(NO_JET);
        Sentences.refusedBeyond(0, 7, INDEX, (y, jet) -> y.aim(jet, 1));
        hold("Throws `IllegalArgumentException` if aim is out of range");
        Sentences.refusedBeyond(0, 10, ARGUMENT, (y, aim) -> y.aim(7, aim));
    }

    private static void pump() {
        promise(4);
        hold("- `pump`: 0 or 1");
        for (int pump = 0; pump < 2; pump++) {
            FountainCues x = new FountainCues();
            x.pump(pump, 9);
            due("the limit of " + pump, x.pumpOf(pump, 0), 9);
            due("the limit of the other", x.pumpOf(1 - pump, 0), 300);
        }
        hold("- `limit`: 0 to 2000");
        Sentences.kept(0, 2000, (x, limit) -> x.pump(1, limit), x -> x.pumpOf(1, 0));
        hold("Returns the previous limit.");
        FountainCues x = new FountainCues();
        due("the first", x.pump(1, 0), 300);
        due("the least", x.pump(1, 2000), 0);
        due("the greatest", x.pump(1, 2000), 2000);
        hold(NO_PUMP);
        Sentences.refusedBeyond(0, 1, INDEX, (y, pump) -> y.pump(pump, 300));
        hold("Throws `IllegalArgumentException` if limit is out of range");
        Sentences.refusedBeyond(0, 2000, ARGUMENT, (y, limit) -> y.pump(0, limit));
    }

    private static void wind() {
        promise(5);
        hold("- `wind`: 0 to 20");
        Sentences.kept(0, 20, FountainCues::wind, x -> x.count(2));
        hold("Returns the previous wind.");
        FountainCues x = new FountainCues();
        due("the first", x.wind(20), 0);
        due("the greatest", x.wind(20), 20);
        due("the same", x.wind(0), 20);
        due("the least", x.wind(1), 0);
        hold("Throws `IllegalArgumentException` if wind is out of range");
        Sentences.refusedBeyond(0, 20, ARGUMENT, FountainCues::wind);
    }

    private static FountainCues nearlyFull() {
        FountainCues x = new FountainCues();
        for (int i = 0; i < 9; i++) {
            x.fill(9999);
        }
        return x;
    }

    private static void fill() {
        promise(6);
        hold("- `water`: 1 to 9999");
        Sentences.taken(1, 9999, FountainCues::fill);
        hold("Returns the water then.");
        due("of the least", new FountainCues().fill(1), 5001);
        due("of the most", new FountainCues().fill(9999), 14999);
        due("as count tells", nearlyFull().count(3), 94991);
        hold("Throws `IllegalArgumentException` if water is out of range");
        Sentences.refusedBeyond(1, 9999, ARGUMENT, FountainCues::fill);
        hold("Throws `IllegalStateException` if it would be above 99999");
        due("99998", nearlyFull().fill(5007), 99998);
        due("99999", nearlyFull().fill(5008), 99999);
        Sentences.refused("100000", STATE, PromiseBoundaryTest::nearlyFull, x -> x.fill(5009));
        Sentences.refused("104990", STATE, PromiseBoundaryTest::nearlyFull, x -> x.fill(9999));
    }

    private static void set() {
        promise(7);
        hold("- `setting`: 0 to 2");
        int[] first = {4, 2, 3};
        for (int setting = 0; setting < 3; setting++) {
            FountainCues x = new FountainCues();
            x.set(setting, 9);
            for (int other = 0; other < 3; other++) {
                due(other + " when " + setting + " changes", x.setting(other), other == setting ? 9 : first[other]);
            }
        }
        hold("- `value`: the new value");
        int[] least = {0, 0, 1};
        int[] most = {20, 50, 10};
        for (int setting = 0; setting < 3; setting++) {
            int s = setting;
            Sentences.kept(least[s], most[s], (x, value) -> x.set(s, value), x -> x.setting(s));
        }
        hold("Returns the previous value.");
        for (int setting = 0; setting < 3; setting++) {
            FountainCues x = new FountainCues();
            due("the first of " + setting, x.set(setting, least[setting]), first[setting]);
            due("the least of " + setting, x.set(setting, most[setting]), least[setting]);
            due("the greatest of " + setting, x.set(setting, most[setting]), most[setting]);
        }
        hold(NO_SETTING);
        Sentences.refusedBeyond(0, 2, INDEX, (x, setting) -> x.set(setting, 1));
        hold("Throws `IllegalArgumentException` if value is out of range");
        for (int setting = 0; setting < 3; setting++) {
            int s = setting;
            Sentences.refusedBeyond(least[s], most[s], ARGUMENT, (x, value) -> x.set(s, value));
        }
    }

    private static void cue() {
        promise(8);
        hold("- `tick`: 0 to 999");
        Sentences.kept(0, 999, (x, tick) -> x.cue(tick, 7, 10), x -> x.cueOf(0, 1));
        hold("- `jet`: 0 to 7");
        Sentences.kept(0, 7, (x, jet) -> x.cue(999, jet, 10), x -> x.cueOf(0, 2));
        hold("- `aim`: 0 to 10");
        Sentences.kept(0, 10, (x, aim) -> x.cue(999, 7, aim), x -> x.cueOf(0, 3));
        hold("Returns its number.");
        FountainCues x = new FountainCues();
        for (int number = 0; number < 16; number++) {
            due("the number " + number, x.cue(999 - number, 0, 0), number);
            due("the first by the order", x.cueOf(0, 0), number);
        }
        x.drop(0);
        due("behind one that is gone", x.cue(999, 0, 0), 16);
    }

    private static void cueThrows() {
        hold(NO_JET);
        Sentences.refusedBeyond(0, 7, INDEX, (x, jet) -> x.cue(999, jet, 0));
        hold(WRONG_CUE);
        Sentences.refusedBeyond(0, 999, ARGUMENT, (x, tick) -> x.cue(tick, 7, 0));
        Sentences.refusedBeyond(0, 10, ARGUMENT, (x, aim) -> x.cue(999, 7, aim));
        hold("Throws `IllegalStateException` if it is refused");
        Sentences.refused("1: over", STATE, Shows::busy, x -> x.cue(2, 7, 0));
        Sentences.refused("2: 16 cues", STATE, () -> Shows.withCues(16), x -> x.cue(0, 0, 0));
        Sentences.refused("3: double", STATE, () -> Shows.withCues(15), x -> x.cue(514, 7, 1));
        Sentences.refused("4: too much", STATE, PromiseBoundaryTest::tight, x -> x.cue(1, 0, 10));
        due("just not refused", tight().cue(1, 0, 9), 0);
    }

    /** The pump 0 gives one part less than the jet 0, of size 20, asks for when it is wholly open. */
    private static FountainCues tight() {
        FountainCues x = new FountainCues();
        x.jet(0, 20, 0);
        x.pump(0, 199);
        return x;
    }

    private static void drop() {
        promise(9);
        hold("- `cue`: its number");
        FountainCues x = new FountainCues();
        x.cue(9, 0, 1);
        x.cue(8, 1, 2);
        due("the number, not the place", x.drop(0), 1);
        due("the other stays", x.cueOf(0, 0), 1);
        hold("Returns how many cues there are then.");
        FountainCues full = Shows.withCues(16);
        for (int number = 15; number >= 0; number--) {
            due("behind the drop of " + number, full.drop(number), number);
        }
        hold("Throws `IndexOutOfBoundsException` if there is no such cue");
        Sentences.refused("none at all", INDEX, FountainCues::new, y -> y.drop(0));
        Sentences.refused("one that is to come", INDEX, () -> Shows.withCues(16), y -> y.drop(16));
        Sentences.refused("-1", INDEX, () -> Shows.withCues(16), y -> y.drop(-1));
        Sentences.refused("the least number", INDEX, () -> Shows.withCues(16), y -> y.drop(Integer.MIN_VALUE));
        Sentences.refused("the greatest number", INDEX, () -> Shows.withCues(16), y -> y.drop(Integer.MAX_VALUE));
        Sentences.refused("one that was done", INDEX, Shows::busy, y -> y.drop(0));
        Sentences.refused("one that was dropped", INDEX, Shows::busy, y -> y.drop(1));
        Sentences.refused("one by its place", INDEX, Shows::busy, y -> y.drop(y.count(1) - 1));
        due("one that is there", Shows.busy().drop(2), 0);
    }

    private static void play() {
        promise(10);
        hold("Plays ticks. Undoable, as one call.");
        FountainCues x = Shows.lossless(20, 10);
        x.play(100);
        due("a hundred ticks", x.jetOf(0, 7), 101);
        x.undo();
        due("are undone at once", x.jetOf(0, 7), 1);
        hold("- `ticks`: 1 to 100");
        Sentences.kept(1, 100, FountainCues::play, y -> y.count(0));
        hold("Returns how much water is lost in them.");
        due("none", new FountainCues().play(100), 0);
        due("of one tick, not of those before", lossy().play(1), 4);
        due("of 25 ticks", lossy().play(25), 100);
        due("of 100 ticks", lossy().play(100), 400);
        FountainCues y = Shows.withWater(300);
        y.jet(0, 20, 0);
        y.aim(0, 10);
        y.set(1, 50);
        due("of two ticks, and none of dry ones", y.play(100), 100 + 100);
        due("of dry ones alone", y.play(100), 0);
    }

    private static FountainCues lossy() {
        FountainCues x = Shows.oneOpen();
        x.play(1);
        return x;
    }

    private static void playThrows() {
        hold("Throws `IllegalArgumentException` if ticks is out of range");
        Sentences.refusedBeyond(1, 100, ARGUMENT, FountainCues::play);
    }

    private static FountainCues withCodes(int codes) {
        FountainCues x = new FountainCues();
        for (int i = 0; i < codes; i++) {
            x.append(i % 2 == 0 ? 33 : 126);
        }
        return x;
    }

    private static void append() {
        promise(11);
        hold("- `code`: the character code, 33 to 126");
        Sentences.taken(33, 126, FountainCues::append);
        hold("Returns the new length of the buffer.");
        FountainCues x = new FountainCues();
        for (int length = 1; length <= 60; length++) {
            due("the length", x.append(33), length);
        }
        hold("Throws `IllegalArgumentException` if code is not 33 to 126");
        Sentences.refusedBeyond(33, 126, ARGUMENT, FountainCues::append);
        hold("Throws `IllegalStateException` if the buffer has 60 characters");
        due("59", withCodes(59).append(33), 60);
        Sentences.refused("60", STATE, () -> withCodes(60), y -> y.append(33));
    }

    private static void clearBuffer() {
        promise(12);
        hold("Returns the length that it had.");
        for (int length : new int[] {0, 1, 59, 60}) {
            FountainCues x = withCodes(length);
            due("of " + length, x.clearBuffer(), length);
            due("cleared", x.clearBuffer(), 0);
        }
    }

    private static void firstError() {
        promise(13);
        hold("Returns the index of the first character that is a syntax error; the length of the buffer if there "
            + "is none.");
        due("an empty buffer", new FountainCues().firstError(), 0);
        due("the first character", withCodes(1).firstError(), 0);
        due("the first of 60", withCodes(60).firstError(), 0);
        due("one right character", Shows.withText("5").firstError(), 1);
        due("the second one", Shows.withText("5x").firstError(), 1);
        String full = "1@a1;".repeat(12);
        due("60 right ones", Shows.withText(full).firstError(), 60);
        due("the last of 60", Shows.withText(full.substring(0, 59) + "@").firstError(), 59);
        due("the last but one of 60", Shows.withText(full.substring(0, 58) + "a;").firstError(), 58);
    }

    private static void cueAll() {
        promise(14);
        hold("Adds the cues in the buffer, one after the other; those that are refused are left out; and clears "
            + "the buffer. Undoable, as one call.");
        FountainCues x = Shows.withCues(14);
        Shows.type(x, "1@a1;1@a2;2@a9;3@b1;4@b1");
        due("up to 16", x.cueAll(), 2);
        due("the double one is left out", x.cueOf(0, 3), 1);
        due("16", x.count(1), 16);
        due("an empty buffer", x.clearBuffer(), 0);
        x.undo();
        due("both are undone", x.count(1), 14);
        due("the buffer stays empty", x.clearBuffer(), 0);
        due("their numbers are free again", x.cue(9, 0, 0), 14);
        hold("Returns how many are added.");
        due("none", full("1@a1;2@a1").cueAll(), 0);
        due("one", Shows.withText("999@h10").cueAll(), 1);
        due("twelve, with 59 characters", Shows.withText("1@a1;2@a1;3@a1;4@a1;5@a1;6@a1;1@b1;2@b1;3@b1;4@b1;5@b1;6@b1")
            .cueAll(), 12);
        FountainCues y = new FountainCues();
        y.jet(0, 20, 0);
        y.jet(1, 20, 0);
        Shows.type(y, "5@a10;5@b6;5@b5;6@c1;7@a0;7@c1");
        due("one after the other, by what the pump gives", y.cueAll(), 4);
        due("the one that just fits", y.cueOf(1, 3), 5);
        cueAllThrows();
    }

    private static FountainCues full(String text) {
        FountainCues x = Shows.withCues(16);
        Shows.type(x, text);
        return x;
    }

    private static void cueAllThrows() {
        hold("Throws `IllegalArgumentException` if the buffer is not complete cues as a text");
        String[] texts = {"", "5", "5@", "5@a", "5@a1;", "5@a1;6", "5@a1;6@", "5@a1;6@b", "5@a1x", "x5@a1",
            "5@a1;;6@b1", "1@a1;".repeat(12)};
        for (String text : texts) {
            Sentences.refused("'" + text + "'", ARGUMENT, () -> Shows.withText(text), FountainCues::cueAll);
            Sentences.refused("'" + text + "' with 16 cues", ARGUMENT, () -> full(text), FountainCues::cueAll);
        }
    }

    private static void undo() {
        promise(15);
        hold("Returns how many saved states are left.");
        FountainCues x = new FountainCues();
        for (int i = 1; i <= 7; i++) {
            x.wind(i);
        }
        for (int left = 5; left >= 0; left--) {
            due("left", x.undo(), left);
            due("as count tells", x.count(9), left);
        }
        hold("Throws `IllegalStateException` if there is none");
        Sentences.refused("of a new object", STATE, FountainCues::new, FountainCues::undo);
        Sentences.due("when all are restored", Checks.thrownBy(x::undo), "IllegalStateException");
        due("the oldest that was saved", x.count(2), 1);
    }

    private static void jetOf() {
        promise(16);
        hold("- `jet`: 0 to 7");
        FountainCues x = new FountainCues();
        for (int jet = 0; jet < 8; jet++) {
            x.jet(jet, jet + 1, 0);
        }
        for (int jet = 0; jet < 8; jet++) {
            due("the jet " + jet, x.jetOf(jet, 0), jet + 1);
        }
        hold("Returns the number.");
        Sentences.taken(0, 7, (y, what) -> y.jetOf(0, what));
        hold(NO_JET);
        Sentences.refusedBeyond(0, 7, INDEX, (y, jet) -> y.jetOf(jet, 0));
        hold("Throws `IllegalArgumentException` if what is not 0 to 7");
        Sentences.refusedBeyond(0, 7, ARGUMENT, (y, what) -> y.jetOf(7, what));
    }

    private static void jetOfNumbers() {
        hold("- `what`: 0: its size; 1: its colour; 2: the parts of its valve; 3: its aim; 4: what it asks for; "
            + "5: what it would get, by its pump and the wind, whatever the basin has; 6: its height by "
            + "that; 7: ticks so far in which its lamp burned");
        int[] closed = {1, 0, 0, 0, 0, 0, 0, 0};
        int[] open = {20, 0, 10, 10, 200, 200, 10, 1};
        for (int what = 0; what <= 7; what++) {
            due("the least of " + what, Shows.lossless(1, 0).jetOf(0, what), closed[what]);
            due("the most of " + what, Shows.lossless(20, 10).jetOf(0, what), open[what]);
        }
        FountainCues x = Shows.withWater(199);
        x.jet(0, 20, 3);
        x.aim(0, 10);
        int lamps = x.jetOf(0, 7);
        x.play(1);
        due("the tick is dry", x.count(5), 1);
        int[] dry = {20, 3, 10, 10, 200, 200, 10, lamps};
        for (int what = 0; what <= 7; what++) {
            due("whatever the basin has: " + what, x.jetOf(0, what), dry[what]);
        }
        x.wind(20);
        due("cut by the wind, with nothing left", x.jetOf(0, 5), 0);
        x.wind(0);
        x.pump(0, 0);
        due("a pump that gives nothing", x.jetOf(0, 5), 0);
    }

    private static void pumpOf() {
        promise(17);
        hold("- `pump`: 0 or 1");
        Sentences.taken(0, 1, (x, pump) -> x.pumpOf(pump, 0));
        hold("- `what`: 0: its limit; 1: what its jets ask for; 2: what they would get, whatever the basin has");
        FountainCues x = Shows.wideOpen();
        int[] closed = {2000, 0, 0};
        for (int what = 0; what <= 2; what++) {
            due("closed: " + what, x.pumpOf(1, what), closed[what]);
        }
        x.play(100);
        x.set(1, 50);
        x.play(10);
        Sentences.due("some ticks are dry", x.count(5) > 0, true);
        int[] open = {2000, 800, 800};
        for (int what = 0; what <= 2; what++) {
            due("wide open, whatever the basin has: " + what, x.pumpOf(1, what), open[what]);
        }
        hold("Returns the number.");
        x.pump(1, 0);
        int[] none = {0, 800, 0};
        for (int what = 0; what <= 2; what++) {
            due("with the limit 0: " + what, x.pumpOf(1, what), none[what]);
        }
        x.wind(13);
        due("cut to one part", x.pumpOf(0, 2), 80);
        x.wind(14);
        due("cut to nothing", x.pumpOf(0, 2), 0);
        hold(NO_PUMP);
        Sentences.refusedBeyond(0, 1, INDEX, (y, pump) -> y.pumpOf(pump, 0));
        hold("Throws `IllegalArgumentException` if what is not 0 to 2");
        Sentences.refusedBeyond(0, 2, ARGUMENT, (y, what) -> y.pumpOf(1, what));
    }

    private static void cueOf() {
        promise(18);
        hold("- `place`: its place in the order, from 0");
        FountainCues full = Shows.withCues(16);
        due("the first place", full.cueOf(0, 0), 0);
        due("the last place", full.cueOf(15, 0), 15);
        hold("- `what`: 0: its number; 1: its tick; 2: its jet; 3: its aim");
        FountainCues x = new FountainCues();
        x.cue(999, 7, 10);
        int[] numbers = {0, 999, 7, 10};
        for (int what = 0; what <= 3; what++) {
            due("of the greatest: " + what, x.cueOf(0, what), numbers[what]);
        }
        hold("Returns the number, NONE if there are not so many.");
        for (int what = 0; what <= 3; what++) {
            due("of no cue: " + what, new FountainCues().cueOf(0, what), -1);
            due("behind one cue: " + what, x.cueOf(1, what), -1);
            due("behind 16 cues: " + what, full.cueOf(16, what), -1);
            due("far behind: " + what, full.cueOf(Integer.MAX_VALUE, what), -1);
        }
        full.drop(3);
        due("the last place of 16, with 15", full.cueOf(15, 0), -1);
        due("the last place of 15", full.cueOf(14, 0), 15);
        hold("Throws `IllegalArgumentException` if place is below 0, or what is not 0 to 3");
        Sentences.refused("-1", ARGUMENT, Shows::busy, y -> y.cueOf(-1, 0));
        Sentences.refused("the least place", ARGUMENT, Shows::busy, y -> y.cueOf(Integer.MIN_VALUE, 0));
        Sentences.refusedBeyond(0, 3, ARGUMENT, (y, what) -> y.cueOf(0, what));
        Sentences.refusedBeyond(0, 3, ARGUMENT, (y, what) -> y.cueOf(16, what));
    }

    private static void count() {
        promise(19);
        hold("Returns the number.");
        Sentences.taken(0, 9, FountainCues::count);
        hold("Throws `IllegalArgumentException` if what is not 0 to 9");
        Sentences.refusedBeyond(0, 9, ARGUMENT, FountainCues::count);
    }

    private static void countNumbers() {
        hold("- `what`: 0: the tick that comes next; 1: cues; 2: the wind; 3: the water of the basin; 4: water "
            + "that was lost so far; 5: dry ticks so far; 6: lamps that burn by the heights as in jetOf(); "
            + "7: cues that were done so far; 8: the greatest height that was reached so far; 9: saved states");
        int[] first = {0, 0, 0, 5000, 0, 0, 0, 0, 0, 0};
        for (int what = 0; what <= 9; what++) {
            due("at first: " + what, new FountainCues().count(what), first[what]);
        }
        FountainCues x = Shows.withCues(16);
        x.wind(20);
        for (int i = 0; i < 6; i++) {
            x.play(100);
        }
        int[] later = {600, 0, 20, 5000, 0, 0, 0, 16, 0, 6};
        for (int what = 0; what <= 9; what++) {
            due("behind 16 cues: " + what, x.count(what), later[what]);
        }
        FountainCues y = Shows.wideOpen();
        y.set(1, 50);
        y.play(5);
        y.play(10);
        int[] dry = {15, 0, 0, 1000, 4000, 10, 8, 0, 10, 6};
        for (int what = 0; what <= 9; what++) {
            due("with dry ticks: " + what, y.count(what), dry[what]);
        }
        lampsAtTheLeastHeight();
        heightsInDryTicks();
    }

    private static void lampsAtTheLeastHeight() {
        FountainCues x = Shows.wideOpen();
        x.play(1);
        int[][] byLimit = {{800, 4}, {81, 4}, {80, 4}, {79, 0}, {0, 0}};
        for (int[] due : byLimit) {
            x.pump(0, due[0]);
            due("lamps of the height 1 or more by the limit " + due[0], x.count(6), 4 + due[1]);
        }
    }

    private static void heightsInDryTicks() {
        FountainCues x = Shows.wideOpen();
        x.set(1, 50);
        x.set(2, 1);
        x.play(9);
        due("nine parts", x.count(8), 9);
        due("no dry tick yet", x.count(5), 0);
        x.play(1);
        due("the tenth tick is dry", x.count(5), 1);
        due("the height in it is not reached", x.count(8), 9);
        due("which would be", x.jetOf(0, 6), 10);
    }

    private static void setting() {
        promise(20);
        hold("- `setting`: 0 to 2");
        Sentences.taken(0, 2, FountainCues::setting);
        hold("Returns its value.");
        int[] first = {4, 2, 3};
        int[] most = {20, 50, 10};
        for (int setting = 0; setting <= 2; setting++) {
            FountainCues x = new FountainCues();
            due("at first: " + setting, x.setting(setting), first[setting]);
            x.set(setting, most[setting]);
            due("the greatest: " + setting, x.setting(setting), most[setting]);
            x.undo();
            due("undone: " + setting, x.setting(setting), first[setting]);
        }
        hold(NO_SETTING);
        Sentences.refusedBeyond(0, 2, INDEX, FountainCues::setting);
    }

    private static void refusal() {
        promise(21);
        hold("- `tick`: 0 to 999");
        Sentences.taken(0, 999, (x, tick) -> x.refusal(tick, 0, 0));
        hold("- `jet`: 0 to 7");
        Sentences.taken(0, 7, (x, jet) -> x.refusal(0, jet, 0));
        hold("- `aim`: 0 to 10");
        Sentences.taken(0, 10, (x, aim) -> x.refusal(0, 0, aim));
        hold("Returns the reason, 1 to 4, 0 if it would not be.");
        FountainCues x = Shows.withCues(15);
        x.play(1);
        due("0", x.refusal(999, 0, 10), 0);
        due("1", x.refusal(0, 0, 10), 1);
        due("3", x.refusal(500, 7, 10), 3);
        x.pump(0, 49);
        due("4", x.refusal(999, 0, 10), 4);
        due("0 with less", x.refusal(999, 0, 9), 0);
        x.cue(999, 6, 0);
        due("2", x.refusal(999, 0, 9), 2);
        hold(NO_JET);
        Sentences.refusedBeyond(0, 7, INDEX, (y, jet) -> y.refusal(999, jet, 0));
        hold(WRONG_CUE);
        Sentences.refusedBeyond(0, 999, ARGUMENT, (y, tick) -> y.refusal(tick, 7, 0));
        Sentences.refusedBeyond(0, 10, ARGUMENT, (y, aim) -> y.refusal(999, 7, aim));
    }

    private static void ifPlayed() {
        promise(22);
        hold("- `ticks`: 1 to 100");
        FountainCues x = Shows.lossless(20, 10);
        due("one", x.ifPlayed(1, 3), 1);
        due("a hundred", x.ifPlayed(100, 3), 100);
        due("no tick is played", x.count(0), 1);
        hold("Returns the number.");
        for (int what = 0; what <= 3; what++) {
            due("of a new object: " + what, new FountainCues().ifPlayed(100, what), 0);
        }
        hold("Throws `IllegalArgumentException` if ticks or what is out of range");
        Sentences.refusedBeyond(1, 100, ARGUMENT, (y, ticks) -> y.ifPlayed(ticks, 0));
        Sentences.refusedBeyond(0, 3, ARGUMENT, (y, what) -> y.ifPlayed(1, what));
    }

    private static void ifPlayedNumbers() {
        hold("- `what`: 0: water that would be lost; 1: dry ticks; 2: the greatest height in them; 3: ticks in "
            + "which lamps of the colour 0 would burn (of each jet by itself, together)");
        FountainCues x = Shows.wideOpen();
        x.set(1, 50);
        int[] wet = {4000, 0, 10, 5 * 2};
        int[] both = {4000, 95, 10, 5 * 2};
        for (int what = 0; what <= 3; what++) {
            due("five ticks: " + what, x.ifPlayed(5, what), wet[what]);
            due("with dry ticks: " + what, x.ifPlayed(100, what), both[what]);
        }
        x.play(5);
        int[] dry = {0, 1, 0, 0};
        int[] allDry = {0, 100, 0, 0};
        for (int what = 0; what <= 3; what++) {
            due("one dry tick: " + what, x.ifPlayed(1, what), dry[what]);
            due("dry ticks: " + what, x.ifPlayed(100, what), allDry[what]);
        }
        FountainCues y = new FountainCues();
        y.cue(99, 0, 10);
        y.cue(100, 0, 0);
        due("the cue of the hundredth tick", y.ifPlayed(100, 2), 3);
        due("not by 99", y.ifPlayed(99, 2), 0);
        y.set(2, 10);
        y.play(100);
        due("not what was reached before", y.ifPlayed(1, 2), 0);
    }

    private static void mostAim() {
        promise(23);
        hold("- `tick`: 0 to 999");
        Sentences.taken(0, 999, (x, tick) -> x.mostAim(tick, 0));
        hold("- `jet`: 0 to 7");
        Sentences.taken(0, 7, (x, jet) -> x.mostAim(0, jet));
        hold("Returns the greatest aim, 0 to 10, with which a cue would not be refused; NONE if there is none.");
        FountainCues x = new FountainCues();
        x.jet(0, 20, 0);
        x.jet(1, 1, 0);
        x.aim(1, 1);
        int[][] byLimit = {{2000, 10}, {201, 10}, {200, 9}, {181, 9}, {180, 8}, {21, 1}, {20, 0}, {1, 0}, {0, -1}};
        for (int[] due : byLimit) {
            x.pump(0, due[0]);
            due("with the limit " + due[0], x.mostAim(5, 0), due[1]);
        }
        x.aim(1, 0);
        due("closed with the limit 0", x.mostAim(5, 0), 0);
        due("with 15 cues", Shows.withCues(15).mostAim(999, 0), 10);
        due("with 16 cues", Shows.withCues(16).mostAim(999, 0), -1);
        due("where there is one", Shows.withCues(1).mostAim(500, 7), -1);
        due("a tick behind", Shows.withCues(1).mostAim(501, 7), 10);
        x.play(1);
        due("over", x.mostAim(0, 7), -1);
        due("not over", x.mostAim(1, 7), 10);
        hold(NO_JET);
        Sentences.refusedBeyond(0, 7, INDEX, (y, jet) -> y.mostAim(999, jet));
        hold("Throws `IllegalArgumentException` if tick is out of range");
        Sentences.refusedBeyond(0, 999, ARGUMENT, (y, tick) -> y.mostAim(tick, 7));
    }

    private static void fits() {
        promise(24);
        hold("- `tick`: 0 to 999");
        Sentences.taken(0, 999, (x, tick) -> x.fits(tick, 0, 0));
        hold("- `jet`: 0 to 7");
        Sentences.taken(0, 7, (x, jet) -> x.fits(0, jet, 0));
        hold("- `aim`: 0 to 10");
        Sentences.taken(0, 10, (x, aim) -> x.fits(0, 0, aim));
        hold("Returns the least tick, from this one to 999, at which such a cue would not be refused; NONE if "
            + "there is none.");
        due("this one", new FountainCues().fits(0, 0, 10), 0);
        due("this one, the last", new FountainCues().fits(999, 0, 10), 999);
        FountainCues x = new FountainCues();
        x.jet(0, 20, 0);
        x.pump(0, 200);
        x.cue(0, 0, 10);
        x.cue(999, 0, 9);
        due("as late as the last", x.fits(0, 1, 4), 999);
        due("not by the last", x.fits(0, 1, 5), -1);
        due("from the last", x.fits(999, 1, 4), 999);
        due("where there are such ones", x.fits(0, 0, 10), 1);
        due("where there is one, the last", x.fits(999, 0, 0), -1);
        due("with 15 cues", Shows.withCues(15).fits(500, 7, 0), 515);
        due("between", Shows.withCues(15).fits(499, 7, 0), 499);
        due("with 16 cues", Shows.withCues(16).fits(0, 0, 0), -1);
        fitsBehindTicksThatAreOver();
        hold(NO_JET);
        Sentences.refusedBeyond(0, 7, INDEX, (y, jet) -> y.fits(999, jet, 0));
        hold(WRONG_CUE);
        Sentences.refusedBeyond(0, 999, ARGUMENT, (y, tick) -> y.fits(tick, 7, 0));
        Sentences.refusedBeyond(0, 10, ARGUMENT, (y, aim) -> y.fits(999, 7, aim));
    }

    private static void fitsBehindTicksThatAreOver() {
        FountainCues x = new FountainCues();
        x.play(99);
        for (int i = 0; i < 9; i++) {
            x.play(100);
        }
        due("the last tick comes next", x.fits(0, 0, 10), 999);
        x.play(1);
        due("the last tick is over", x.fits(0, 0, 10), -1);
        due("the last tick itself is over", x.fits(999, 0, 10), -1);
    }

    /** Each tick takes 200 and loses 10, so this much water lasts for just so many ticks. */
    private static FountainCues lasting(int ticks) {
        FountainCues x = Shows.withWater(199 + 10 * ticks);
        x.jet(0, 20, 0);
        x.aim(0, 10);
        x.set(1, 5);
        return x;
    }

    private static void dryIn() {
        promise(25);
        hold("Returns behind how many ticks, 1 to 500, a dry one would have come for the first time; NONE if not "
            + "by 500.");
        due("the first tick is dry", lasting(0).dryIn(), 1);
        due("the second", lasting(1).dryIn(), 2);
        due("the 499th", lasting(498).dryIn(), 499);
        due("the 500th", lasting(499).dryIn(), 500);
        due("the 501st", lasting(500).dryIn(), -1);
        due("no jet is open", new FountainCues().dryIn(), -1);
        FountainCues x = lasting(0);
        x.play(1);
        due("behind a dry one", x.dryIn(), 1);
        x.fill(1);
        due("just enough for one", x.dryIn(), 2);
        FountainCues y = Shows.withWater(1);
        int tick = y.count(0);
        y.cue(tick + 499, 0, 2);
        due("by a cue in the 500th", y.dryIn(), 500);
        y.drop(0);
        y.cue(tick + 500, 0, 2);
        due("by a cue in the 501st", y.dryIn(), -1);
        due("no tick is played", y.count(0), tick);
    }

    private static void share() {
        promise(26);
        hold("Returns what all jets would get, as in jetOf(), as a double, divided by what they ask for; 1.0 if "
            + "that is 0.");
        Sentences.due("nothing is asked for", new FountainCues().share(), 1.0);
        FountainCues x = Shows.lossless(20, 10);
        double[][] byLimit = {{2000, 1.0}, {200, 1.0}, {199, 0.995}, {100, 0.5}, {1, 0.005}, {0, 0.0}};
        for (double[] due : byLimit) {
            x.pump(0, (int) due[0]);
            Sentences.due("with the limit " + due[0], x.share(), due[1]);
        }
        FountainCues y = Shows.wideOpen();
        y.play(1);
        y.pump(1, 0);
        Sentences.due("of both pumps", y.share(), 0.5);
        y.wind(13);
        Sentences.due("cut by the wind", y.share(), 80.0 / 1600.0);
        y.wind(14);
        Sentences.due("nothing is left", y.share(), 0.0);
        FountainCues least = Shows.lossless(1, 1);
        Sentences.due("all of the least", least.share(), 1.0);
        least.pump(0, 0);
        Sentences.due("nothing of the least", least.share(), 0.0);
        FountainCues z = lasting(0);
        z.play(1);
        due("with a dry tick", z.count(5), 1);
        Sentences.due("whatever the basin has", z.share(), 1.0);
    }

    private static void digest() {
        promise(27);
        hold("the hash becomes 31 * hash + v, in long arithmetic with overflow.");
        wraps(new FountainCues(), "");
        wraps(Shows.busy(), "40@e1;4");
        wraps(Shows.withCues(16), "");
        wraps(Shows.withText("~"), "~");
        wraps(withCodes(60), "!~".repeat(30));
        wraps(lasting(499), "");
        wraps(Shows.lossless(1, 1), "");
        foreseen();
        bitsOfShares();
        hold("Returns the hash.");
        FountainCues x = Shows.busy();
        due("again", x.digest(), x.digest());
        due("of one like it", x.digest(), Shows.busy().digest());
    }

    /** Cues just at the tick 20, just beside it, and at the ends of the nine ticks that would be played. */
    private static void foreseen() {
        hold("ifPlayed of 9 with 0 to 3; for each jet mostAim of the tick 20, and fits of the tick 20 with the aim 10");
        for (int tick : new int[] {0, 8, 9, 19, 20, 21}) {
            FountainCues x = new FountainCues();
            x.jet(0, 20, 0);
            x.jet(1, 20, 0);
            x.cue(tick, 0, 9);
            wraps(x, "");
        }
    }

    /** Shares at and beside 1.0, 0.5, 0.25, .., where the exponent changes, the least one, and none. */
    private static void bitsOfShares() {
        hold("the bits of share (as Double.doubleToLongBits)");
        for (int limit : new int[] {200, 199, 101, 100, 99, 51, 50, 49, 26, 25, 24, 2, 1, 0}) {
            FountainCues x = Shows.lossless(20, 10);
            x.pump(0, limit);
            wraps(x, "");
        }
        wraps(new FountainCues(), "");
    }

    private static void wraps(FountainCues x, String text) {
        BigInteger whole = wholeSum(x, text);
        Sentences.due("is longer than a long", whole.bitLength() > 64, true);
        due("wraps around", x.digest(), whole.longValue());
    }

    /** The same sum without bounds, to be cut to a long at the end only. */
    private static BigInteger wholeSum(FountainCues x, String text) {
        BigInteger hash = BigInteger.valueOf(3121);
        for (int i = 0; i < 10; i++) {
            hash = next(hash, x.count(i));
        }
        for (int i = 0; i < 3; i++) {
            hash = next(hash, x.setting(i));
        }
        for (int i = 0; i < 64; i++) {
            hash = next(hash, x.jetOf(i / 8, i % 8));
        }
        for (int i = 0; i < 6; i++) {
            hash = next(hash, x.pumpOf(i / 3, i % 3));
        }
        for (int i = 0; x.cueOf(i / 4, 0) != -1; i++) {
            hash = next(hash, x.cueOf(i / 4, i % 4));
        }
        for (int i = 0; i < 4; i++) {
            hash = next(hash, x.ifPlayed(9, i));
        }
        for (int jet = 0; jet < 8; jet++) {
            hash = next(next(hash, x.mostAim(20, jet)), x.fits(20, jet, 10));
        }
        hash = next(next(hash, x.dryIn()), Double.doubleToLongBits(x.share()));
        hash = next(hash, text.length());
        for (int i = 0; i < text.length(); i++) {
            hash = next(hash, text.charAt(i));
        }
        return hash;
    }

    private static BigInteger next(BigInteger hash, long value) {
        return hash.multiply(BigInteger.valueOf(31)).add(BigInteger.valueOf(value));
    }
}
