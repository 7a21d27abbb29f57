import java.util.function.Consumer;
import java.util.function.Supplier;

/** The sentences of "Terms" that name a boundary: the last case on one side, and the first on the other. */
public final class TermsBoundaryTest {
    private static final String TERMS = "Terms";

    private TermsBoundaryTest() {
    }

    public static void main(String[] args) {
        divisions();
        jets();
        valves();
        pumpsOfJets();
        pumpLimits();
        askingForMore();
        heights();
        windRange();
        windCut();
        windCutsWhatIsMore();
        basinRange();
        losses();
        dryTicks();
        atMostSixteenCues();
        cueNumbers();
        cueRanges();
        cueOrder();
        cuesOfATick();
        valvesMove();
        lamps();
        nextTick();
        ticksThatAreOver();
        sixteenCues();
        sameTickAndJet();
        pumpsThatAreAskedForMore();
        firstReason();
        settings();
        bufferLength();
        parts();
        ticksAsText();
        jetsAsText();
        aimsAsText();
        syntaxErrors();
        savedEvenIfNothingChanges();
        notSaved();
        whatUndoBringsBack();
        atMostSixStates();
        throwingChangesNothing();
        namedFirst();
        nothingToReturn();
        callsOfAnObject();
        Sentences.closeNumbers(TERMS);
        Checks.close("TermsBoundaryTest");
    }

    private static void hold(String sentence) {
        Sentences.hold(TERMS, sentence);
    }

    private static void due(String what, long got, long want) {
        Sentences.due(what, got, want);
    }

    private static void is(String what, boolean got) {
        Sentences.due(what, got, true);
    }

    // Jets, pumps

    private static void divisions() {
        hold("divisions are rounded down");
        FountainCues x = Shows.lossless(20, 10);
        x.pump(0, 199);
        due("a height just below 10", x.jetOf(0, 6), 9);
        x.pump(0, 39);
        due("a height just below 2", x.jetOf(0, 6), 1);
        x.aim(1, 1);
        x.play(1);
        x.pump(0, 204);
        due("199.02 of 200", x.jetOf(0, 5), 199);
        due("4.98 of 5", x.jetOf(1, 5), 4);
    }

    private static void jets() {
        hold("There are 8 jets, numbered from 0.");
        Sentences.taken(0, 7, (x, jet) -> x.jetOf(jet, 0));
        Sentences.refusedBeyond(0, 7, Sentences.INDEX, (x, jet) -> x.jetOf(jet, 0));
        hold("A jet has a size, 1 to 20, at first 5");
        first(0, 5);
        Sentences.kept(1, 20, (x, size) -> x.jet(6, size, 0), x -> x.jetOf(6, 0));
        Sentences.refusedBeyond(1, 20, Sentences.ARGUMENT, (x, size) -> x.jet(6, size, 0));
        hold("a lamp of a colour, 0 to 3, at first 0");
        first(1, 0);
        Sentences.kept(0, 3, (x, colour) -> x.jet(6, 5, colour), x -> x.jetOf(6, 1));
        Sentences.refusedBeyond(0, 3, Sentences.ARGUMENT, (x, colour) -> x.jet(6, 5, colour));
        hold("and has an aim, 0 to 10, at first 0.");
        first(3, 0);
        Sentences.kept(0, 10, (x, aim) -> x.aim(6, aim), x -> x.jetOf(6, 3));
        Sentences.refusedBeyond(0, 10, Sentences.ARGUMENT, (x, aim) -> x.aim(6, aim));
    }

    private static void first(int what, int want) {
        FountainCues x = new FountainCues();
        for (int jet = 0; jet < 8; jet++) {
            due("at first, jet " + jet, x.jetOf(jet, what), want);
        }
    }

    private static void valves() {
        hold("a valve, which is open by 0 to 10 parts, at first 0");
        first(2, 0);
        for (int step = 1; step <= 10; step++) {
            FountainCues x = new FountainCues();
            x.set(2, step);
            x.aim(0, 10);
            x.play(9);
            due("nine ticks of " + step, x.jetOf(0, 2), Math.min(10, 9 * step));
            x.play(91);
            due("not above 10 by " + step, x.jetOf(0, 2), 10);
            x.aim(0, 0);
            x.play(9);
            due("nine ticks back of " + step, x.jetOf(0, 2), Math.max(0, 10 - 9 * step));
            x.play(91);
            due("not below 0 by " + step, x.jetOf(0, 2), 0);
        }
        hold("A jet asks for its size times the parts of its valve.");
        due("nothing", new FountainCues().jetOf(0, 4), 0);
        due("the least", Shows.lossless(1, 1).jetOf(0, 4), 1);
        due("the most", Shows.lossless(20, 10).jetOf(0, 4), 200);
        due("the greatest size, closed", Shows.lossless(20, 0).jetOf(0, 4), 0);
    }

    private static void pumpsOfJets() {
        hold("The jets 0 to 3 are fed by the pump 0, the jets 4 to 7 by the pump 1.");
        for (int pump = 0; pump < 2; pump++) {
            FountainCues x = Shows.wideOpen();
            x.play(1);
            x.pump(pump, 0);
            for (int jet = 0; jet < 8; jet++) {
                boolean isFed = pump == (jet < 4 ? 1 : 0);
                due("the jet " + jet + " without the pump " + pump, x.jetOf(jet, 5), isFed ? 200 : 0);
            }
        }
    }

    private static void pumpLimits() {
        hold("A pump has a limit, 0 to 2000, at first 300.");
        for (int pump = 0; pump < 2; pump++) {
            int p = pump;
            due("at first", new FountainCues().pumpOf(p, 0), 300);
            Sentences.kept(0, 2000, (x, limit) -> x.pump(p, limit), x -> x.pumpOf(p, 0));
            Sentences.refusedBeyond(0, 2000, Sentences.ARGUMENT, (x, limit) -> x.pump(p, limit));
        }
    }

    private static void askingForMore() {
        hold("If its jets ask for more, together, each gets what it asks for times the limit, divided by what "
            + "they ask for together; otherwise each gets what it asks for.");
        FountainCues x = Shows.lossless(20, 10);
        x.jet(3, 10, 0);
        x.aim(3, 10);
        x.play(1);
        int[][] dues = {{2000, 200, 100}, {301, 200, 100}, {300, 200, 100}, {299, 199, 99}, {2, 1, 0}, {1, 0, 0},
            {0, 0, 0}};
        for (int[] due : dues) {
            x.pump(0, due[0]);
            due("the greater one by the limit " + due[0], x.jetOf(0, 5), due[1]);
            due("the smaller one by the limit " + due[0], x.jetOf(3, 5), due[2]);
        }
        FountainCues y = new FountainCues();
        y.pump(0, 0);
        due("nothing of nothing", y.jetOf(0, 5), 0);
        FountainCues z = Shows.wideOpen();
        z.play(1);
        due("four of the greatest by the greatest limit", z.pumpOf(0, 2), 800);
        z.pump(0, 800);
        due("four of the greatest, just enough", z.pumpOf(0, 2), 800);
        z.pump(0, 799);
        due("four of the greatest, one too little", z.jetOf(3, 5), 199);
    }

    private static void heights() {
        hold("The height of a jet is what it gets divided by its size (0 to 10)");
        for (int size : new int[] {1, 20}) {
            due("closed, size " + size, Shows.lossless(size, 0).jetOf(0, 6), 0);
            due("one part, size " + size, Shows.lossless(size, 1).jetOf(0, 6), 1);
            due("wholly open, size " + size, Shows.lossless(size, 10).jetOf(0, 6), 10);
        }
        FountainCues x = Shows.lossless(20, 10);
        int[][] dues = {{200, 10}, {199, 9}, {180, 9}, {179, 8}, {20, 1}, {19, 0}, {0, 0}};
        for (int[] due : dues) {
            x.pump(0, due[0]);
            due("of " + due[0], x.jetOf(0, 6), due[1]);
        }
    }

    // Wind, basin

    private static void windRange() {
        hold("There is a wind, 0 to 20, at first 0.");
        due("at first", new FountainCues().count(2), 0);
        Sentences.kept(0, 20, FountainCues::wind, x -> x.count(2));
        Sentences.refusedBeyond(0, 20, Sentences.ARGUMENT, FountainCues::wind);
    }

    private static void windCut() {
        hold("With the wind above setting 0 no height is above 10 + setting 0 - wind");
        for (int calm = 0; calm <= 20; calm++) {
            FountainCues x = Shows.lossless(20, 10);
            x.set(0, calm);
            for (int wind = 0; wind <= 20; wind++) {
                x.wind(wind);
                int most = wind > calm ? Math.max(0, 10 + calm - wind) : 10;
                due("wind " + wind + " with setting " + calm, x.jetOf(0, 6), most);
            }
        }
        hold("(nor above 0, if that is below 0)");
        FountainCues x = Shows.lossless(20, 10);
        int[][] dues = {{4, 13, 20}, {4, 14, 0}, {4, 15, 0}, {0, 9, 20}, {0, 10, 0}, {0, 11, 0}, {0, 20, 0}};
        for (int[] due : dues) {
            x.set(0, due[0]);
            x.wind(due[1]);
            due("what it gets, wind " + due[1] + " with setting " + due[0], x.jetOf(0, 5), due[2]);
        }
    }

    private static void windCutsWhatIsMore() {
        hold("what a jet gets becomes so much times its size then, if it is more.");
        FountainCues x = Shows.lossless(7, 7);
        int[][] dues = {{4, 49}, {6, 49}, {7, 49}, {8, 42}, {13, 7}, {14, 0}};
        for (int[] due : dues) {
            x.wind(due[0]);
            due("49 in the wind " + due[0], x.jetOf(0, 5), due[1]);
        }
        FountainCues y = Shows.lossless(20, 10);
        y.wind(5);
        int[][] byPump = {{181, 180}, {180, 180}, {179, 179}};
        for (int[] due : byPump) {
            y.pump(0, due[0]);
            due("what the pump gives, " + due[0] + ", not what is asked for", y.jetOf(0, 5), due[1]);
        }
    }

    private static void basinRange() {
        hold("The basin has water, 0 to 99999, at first 5000.");
        due("at first", new FountainCues().count(3), 5000);
        due("full", full().count(3), 99999);
        Sentences.refused("one above 99999", Sentences.STATE, TermsBoundaryTest::full, x -> x.fill(1));
        Sentences.refused("far above 99999", Sentences.STATE, TermsBoundaryTest::full, x -> x.fill(9999));
        fullBasin();
        emptyBasin();
    }

    private static FountainCues full() {
        FountainCues x = new FountainCues();
        for (int i = 0; i < 9; i++) {
            x.fill(9999);
        }
        x.fill(5008);
        return x;
    }

    /** A full basin that loses is filled up again, and not above. */
    private static void fullBasin() {
        FountainCues x = full();
        x.jet(0, 10, 0);
        x.aim(0, 10);
        x.set(2, 10);
        due("a full one loses", x.play(1), 2);
        Sentences.due("three are too much then", Checks.thrownBy(() -> x.fill(3)), "IllegalStateException");
        due("two are not", x.fill(2), 99999);
    }

    /** At most 70 hundredths of what is taken are lost, so the least that can ever be left is 1. */
    private static void emptyBasin() {
        FountainCues x = Shows.withWater(1);
        due("the least that is left", x.count(3), 1);
        x.set(1, 50);
        x.set(0, 20);
        x.wind(20);
        due("no jet is open", x.play(100), 0);
        due("which is not dry", x.count(5), 0);
        x.aim(0, 1);
        due("the last part is not lost", x.play(100), 0);
        due("it is enough for one part", x.count(5), 0);
        due("the water stays", x.count(3), 1);
        x.aim(0, 2);
        due("two parts are too much", x.play(1), 0);
        due("for the least water", x.count(5), 1);
        due("it is filled again", x.fill(1), 2);
        x.play(1);
        due("and enough for two parts", x.count(5), 1);
    }

    private static void losses() {
        hold("of that the part of setting 1 hundredths is lost, rounded down");
        int[][] bySetting = {{0, 20, 10, 0}, {1, 11, 9, 0}, {1, 10, 10, 1}, {2, 7, 7, 0}, {2, 5, 10, 1}, {50, 1, 1, 0},
            {50, 1, 2, 1}, {50, 1, 3, 1}, {50, 20, 10, 100}};
        for (int[] due : bySetting) {
            FountainCues x = Shows.lossless(due[1], due[2]);
            x.set(1, due[0]);
            due(due[0] + " hundredths of " + due[1] * due[2], x.play(1), due[3]);
            due("are gone from the basin", x.count(3), 5000 - due[3]);
        }
        hold("and the wind, if it is above 0, takes (its number) hundredths besides, rounded down");
        int[][] byWind = {{0, 0, 10, 10, 0}, {1, 0, 11, 9, 0}, {1, 0, 10, 10, 1}, {20, 0, 1, 4, 0}, {20, 0, 1, 5, 1},
            {20, 0, 20, 10, 40}, {1, 1, 15, 10, 2}, {1, 50, 11, 9, 49}, {20, 50, 20, 10, 140}};
        for (int[] due : byWind) {
            FountainCues x = Shows.lossless(due[2], due[3]);
            x.set(0, 20);
            x.set(1, due[1]);
            x.wind(due[0]);
            due("wind " + due[0] + " with " + due[1] + " hundredths of " + due[2] * due[3], x.play(1), due[4]);
        }
        hold("the rest comes back at once");
        FountainCues x = Shows.withWater(200);
        x.jet(0, 20, 0);
        x.aim(0, 10);
        x.play(100);
        due("all comes back, so no tick is dry", x.count(5), 0);
        due("nothing is lost", x.count(3), 200);
    }

    private static void dryTicks() {
        hold("If the basin has less than what all jets get, no jet gets anything, and the tick is dry.");
        for (int water = 399; water <= 401; water++) {
            FountainCues x = Shows.withWater(water);
            x.jet(0, 20, 0);
            x.jet(4, 20, 0);
            x.aim(0, 10);
            x.aim(4, 10);
            x.play(1);
            int lamps = x.jetOf(4, 7);
            due("dry ticks with " + water + " for 400, of both pumps", x.count(5), water < 400 ? 1 : 0);
            due("lamps then", lamps, water < 400 ? 0 : 1);
        }
        FountainCues x = Shows.withWater(199);
        x.jet(0, 20, 0);
        x.aim(0, 10);
        x.set(1, 50);
        int lost = x.count(4);
        due("nothing is lost", x.play(1), 0);
        due("nor counted as lost", x.count(4), lost);
        due("the valves move", x.jetOf(0, 2), 10);
        due("the tick is over", x.count(0), 74);
        x.pump(0, 199);
        x.play(1);
        due("what they get counts, by the pump", x.count(5), 1);
        FountainCues y = Shows.withWater(180);
        y.jet(0, 20, 0);
        y.aim(0, 10);
        y.wind(5);
        y.play(1);
        due("what they get counts, by the wind", y.count(5), 0);
        y.wind(4);
        y.play(1);
        due("which is more with less wind", y.count(5), 1);
    }

    // Cues, ticks

    private static void atMostSixteenCues() {
        hold("There are at most 16 cues.");
        due("none", new FountainCues().count(1), 0);
        due("15", Shows.withCues(15).count(1), 15);
        due("the 16th", Shows.withCues(15).cue(2, 0, 0), 15);
        Sentences.refused("the 17th", Sentences.STATE, () -> Shows.withCues(16), x -> x.cue(2, 0, 0));
        FountainCues x = Shows.withCues(16);
        Shows.type(x, "2@a0");
        due("cueAll adds none to 16", x.cueAll(), 0);
        due("16", x.count(1), 16);
        due("dropped", x.drop(15), 15);
        due("one may come again", x.cue(2, 0, 0), 16);
        x.play(3);
        due("done", x.count(1), 15);
        due("one may come again behind that", x.cue(3, 0, 0), 17);
    }

    private static void cueNumbers() {
        hold("the cues are numbered from 0 in the order in which they came, also those that are gone");
        FountainCues x = new FountainCues();
        due("the first", x.cue(9, 0, 1), 0);
        due("an earlier tick", x.cue(8, 0, 1), 1);
        x.drop(1);
        due("behind one that was dropped", x.cue(8, 0, 1), 2);
        x.play(10);
        due("behind those that were done", x.cue(10, 0, 1), 3);
        Checks.thrownBy(() -> x.cue(10, 0, 1));
        due("one that was refused took no number", x.cue(11, 0, 1), 4);
        Shows.type(x, "11@a1;12@a1;13@a1");
        x.cueAll();
        due("nor did one in a text", x.cueOf(2, 0), 5);
        due("but the others there", x.cueOf(3, 0), 6);
        FountainCues y = Shows.withCues(0);
        for (int i = 0; i < 200; i++) {
            due("the number " + i, y.cue(500, 0, 0), i);
            y.drop(i);
        }
    }

    private static void cueRanges() {
        hold("a tick, 0 to 999, a jet, and an aim, 0 to 10.");
        Sentences.kept(0, 999, (x, tick) -> x.cue(tick, 0, 0), x -> x.cueOf(0, 1));
        Sentences.refusedBeyond(0, 999, Sentences.ARGUMENT, (x, tick) -> x.cue(tick, 0, 0));
        Sentences.kept(0, 7, (x, jet) -> x.cue(0, jet, 0), x -> x.cueOf(0, 2));
        Sentences.refusedBeyond(0, 7, Sentences.INDEX, (x, jet) -> x.cue(40, jet, 0));
        Sentences.kept(0, 10, (x, aim) -> x.cue(0, 0, aim), x -> x.cueOf(0, 3));
        Sentences.refusedBeyond(0, 10, Sentences.ARGUMENT, (x, aim) -> x.cue(40, 7, aim));
    }

    private static void cueOrder() {
        hold("They are kept by their ticks, of several by their numbers.");
        FountainCues x = new FountainCues();
        int[] ticks = {5, 999, 0, 5, 4, 6, 5, 0};
        for (int i = 0; i < ticks.length; i++) {
            x.cue(ticks[i], 7 - i, 0);
        }
        int[] order = {2, 7, 4, 0, 3, 6, 5, 1};
        for (int place = 0; place < order.length; place++) {
            due("at the place " + place, x.cueOf(place, 0), order[place]);
            due("its tick", x.cueOf(place, 1), ticks[order[place]]);
            due("its jet", x.cueOf(place, 2), 7 - order[place]);
        }
        due("behind the last place", x.cueOf(order.length, 0), -1);
    }

    private static void cuesOfATick() {
        hold("the cues of this tick set the aims of their jets, in their order, and are gone.");
        FountainCues x = new FountainCues();
        for (int jet = 7; jet >= 0; jet--) {
            x.cue(1, jet, jet);
        }
        x.cue(2, 0, 9);
        x.play(1);
        due("not before their tick", x.jetOf(7, 3), 0);
        due("none is gone", x.count(1), 9);
        x.play(1);
        for (int jet = 0; jet < 8; jet++) {
            due("the jet " + jet + " in their tick", x.jetOf(jet, 3), jet);
        }
        due("they are gone", x.count(1), 1);
        due("they are done", x.count(7), 8);
        due("one of the tick behind is not", x.cueOf(0, 1), 2);
        FountainCues y = new FountainCues();
        y.cue(0, 0, 3);
        y.cue(999, 0, 4);
        y.play(1);
        due("at the tick 0", y.jetOf(0, 3), 3);
        for (int i = 0; i < 9; i++) {
            y.play(100);
        }
        y.play(98);
        due("before the tick 999", y.jetOf(0, 3), 3);
        y.play(1);
        due("at the tick 999", y.jetOf(0, 3), 4);
    }

    private static void valvesMove() {
        hold("Each valve moves towards its aim by at most setting 2 parts.");
        int[][] dues = {{0, 10, 1, 1}, {0, 10, 9, 9}, {0, 10, 10, 10}, {0, 3, 2, 2}, {0, 3, 3, 3}, {0, 3, 4, 3},
            {5, 5, 10, 5}, {10, 0, 1, 9}, {10, 0, 9, 1}, {10, 0, 10, 0}, {5, 2, 2, 3}, {5, 2, 3, 2}, {5, 2, 4, 2},
            {5, 4, 10, 4}};
        for (int[] due : dues) {
            FountainCues x = Shows.lossless(1, due[0]);
            x.aim(0, due[1]);
            x.set(2, due[2]);
            x.play(1);
            due("from " + due[0] + " to " + due[1] + " by " + due[2], x.jetOf(0, 2), due[3]);
        }
        FountainCues x = new FountainCues();
        x.cue(0, 0, 10);
        x.play(1);
        due("in the tick of its cue already", x.jetOf(0, 2), 3);
    }

    private static void lamps() {
        hold("the lamp of a jet burns in the tick if its height is above 0.");
        for (int limit = 19; limit <= 20; limit++) {
            FountainCues x = Shows.lossless(20, 10);
            x.pump(0, limit);
            x.play(5);
            due("ticks more with the limit " + limit, x.jetOf(0, 7), limit < 20 ? 1 : 6);
        }
        for (int wind = 13; wind <= 14; wind++) {
            FountainCues x = Shows.lossless(20, 10);
            x.wind(wind);
            x.play(5);
            due("ticks more with the wind " + wind, x.jetOf(0, 7), wind < 14 ? 6 : 1);
        }
        due("never with a closed valve", Shows.lossless(20, 0).jetOf(0, 7), 0);
    }

    private static void nextTick() {
        hold("Then the next tick comes.");
        FountainCues x = new FountainCues();
        x.play(1);
        due("behind one", x.count(0), 1);
        for (int i = 0; i < 9; i++) {
            x.play(100);
        }
        x.play(98);
        due("the last with cues", x.count(0), 999);
        x.play(1);
        due("the first behind it", x.count(0), 1000);
        for (int i = 0; i < 400; i++) {
            x.play(100);
        }
        due("far behind it", x.count(0), 41000);
    }

    // Refusal

    private static void ticksThatAreOver() {
        hold("1: its tick is over (less than the tick that comes next)");
        FountainCues x = new FountainCues();
        due("the first tick of all", x.refusal(0, 0, 0), 0);
        x.play(1);
        due("it is over", x.refusal(0, 0, 0), 1);
        due("the second is not", x.refusal(1, 0, 0), 0);
        for (int i = 0; i < 9; i++) {
            x.play(100);
        }
        x.play(98);
        due("the last but one is over", x.refusal(998, 0, 0), 1);
        due("the last is not", x.refusal(999, 0, 0), 0);
        x.play(1);
        due("the last is over", x.refusal(999, 0, 0), 1);
        x.play(100);
        due("and stays so", x.refusal(999, 0, 0), 1);
    }

    private static void sixteenCues() {
        hold("2: there are 16 cues");
        due("no cue", Shows.withCues(0).refusal(2, 0, 0), 0);
        due("15 cues", Shows.withCues(15).refusal(2, 0, 0), 0);
        due("16 cues", Shows.withCues(16).refusal(2, 0, 0), 2);
        FountainCues x = Shows.withCues(16);
        x.drop(0);
        due("one is dropped", x.refusal(2, 0, 0), 0);
        x.undo();
        due("it is back", x.refusal(2, 0, 0), 2);
        for (int i = 0; i < 5; i++) {
            x.play(100);
        }
        due("the tick of the first comes next", x.refusal(999, 0, 0), 2);
        x.play(1);
        due("the first is done", x.refusal(999, 0, 0), 0);
    }

    private static void sameTickAndJet() {
        hold("3: there is a cue of the same tick and jet");
        FountainCues x = new FountainCues();
        x.cue(0, 0, 1);
        x.cue(50, 3, 1);
        x.cue(999, 7, 1);
        due("the first tick and jet", x.refusal(0, 0, 2), 3);
        due("the last tick and jet", x.refusal(999, 7, 2), 3);
        due("with the same aim too", x.refusal(50, 3, 1), 3);
        due("the tick before", x.refusal(49, 3, 1), 0);
        due("the tick behind", x.refusal(51, 3, 1), 0);
        due("the jet before", x.refusal(50, 2, 1), 0);
        due("the jet behind", x.refusal(50, 4, 1), 0);
        x.drop(1);
        due("when it is gone", x.refusal(50, 3, 1), 0);
    }

    private static void pumpsThatAreAskedForMore() {
        hold("4: with it the jets of its pump would ask for more than its limit with all valves of them open by "
            + "what their aims would be behind all cues of ticks up to this one, this one too");
        FountainCues x = new FountainCues();
        x.jet(0, 20, 0);
        x.jet(1, 20, 0);
        x.cue(50, 1, 5);
        due("just the limit, at its tick", x.refusal(50, 0, 10), 0);
        x.pump(0, 299);
        due("above the limit, at its tick", x.refusal(50, 0, 10), 4);
        due("a tick before", x.refusal(49, 0, 10), 0);
        due("a tick behind", x.refusal(51, 0, 10), 4);
        due("with less", x.refusal(50, 0, 9), 0);
        due("the other pump", x.refusal(50, 4, 10), 0);
        x.pump(0, 99);
        due("above the limit without it already", x.refusal(50, 2, 0), 4);
        x.pump(0, 0);
        due("nothing is just the limit", x.refusal(49, 0, 0), 0);
        due("one part is above it", x.refusal(49, 0, 1), 4);
        eachJetByItsLastCue();
    }

    private static void eachJetByItsLastCue() {
        hold("(each jet by the last of its cues, or its aim of now)");
        FountainCues x = new FountainCues();
        x.jet(0, 20, 0);
        x.jet(1, 20, 0);
        x.pump(0, 200);
        x.aim(0, 10);
        due("by its aim, the valve is closed yet", x.refusal(5, 1, 1), 4);
        x.cue(10, 0, 0);
        due("by its aim before its cue", x.refusal(9, 1, 1), 4);
        due("by its cue", x.refusal(10, 1, 10), 0);
        x.cue(20, 0, 1);
        due("by its first cue yet", x.refusal(19, 1, 10), 0);
        due("by its last cue", x.refusal(20, 1, 10), 4);
        due("which leaves so much", x.refusal(20, 1, 9), 0);
        due("its own cue is the last of its own", x.refusal(21, 0, 10), 0);
        x.play(3);
        x.aim(0, 0);
        due("by its aim, the valve is open yet", x.refusal(5, 1, 10), 0);
    }

    /** A tick that is over has no cues any more, so the first and the third reason never come together. */
    private static void firstReason() {
        hold("A cue is refused, for the first of these reasons that applies");
        FountainCues x = Shows.withCues(15);
        x.play(1);
        x.cue(20, 0, 1);
        due("1 and 2", x.refusal(0, 5, 1), 1);
        due("2 and 3", x.refusal(20, 0, 1), 2);
        x.pump(0, 4);
        due("1, 2 and 4", x.refusal(0, 0, 1), 1);
        due("2, 3 and 4", x.refusal(20, 0, 1), 2);
        due("2 and 4", x.refusal(21, 0, 1), 2);
        due("2", x.refusal(21, 0, 0), 2);
        x.drop(3);
        due("1 and 4", x.refusal(0, 0, 1), 1);
        due("3 and 4", x.refusal(20, 0, 1), 3);
        due("4", x.refusal(21, 0, 1), 4);
        due("3", x.refusal(20, 0, 0), 3);
        due("1", x.refusal(0, 0, 0), 1);
        due("none", x.refusal(21, 0, 0), 0);
    }

    // Settings

    private static void settings() {
        hold("0: the wind that cuts nothing, 0 to 20, at first 4");
        setting(0, 0, 20, 4);
        hold("1: hundredths that are lost, 0 to 50, at first 2");
        setting(1, 0, 50, 2);
        hold("2: parts by which a valve moves, 1 to 10, at first 3");
        setting(2, 1, 10, 3);
    }

    private static void setting(int setting, int least, int most, int first) {
        due("at first", new FountainCues().setting(setting), first);
        Sentences.kept(least, most, (x, value) -> x.set(setting, value), x -> x.setting(setting));
        Sentences.refusedBeyond(least, most, Sentences.ARGUMENT, (x, value) -> x.set(setting, value));
    }

    // Input text

    private static FountainCues withCodes(int codes) {
        FountainCues x = new FountainCues();
        for (int i = 0; i < codes; i++) {
            x.append('!');
        }
        return x;
    }

    private static void bufferLength() {
        hold("The buffer has at most 60 characters.");
        due("an empty one", withCodes(0).clearBuffer(), 0);
        due("the first", withCodes(0).append('5'), 1);
        due("the last", withCodes(59).append('5'), 60);
        due("a full one", withCodes(60).clearBuffer(), 60);
        Sentences.refused("one more", Sentences.STATE, () -> withCodes(60), x -> x.append('5'));
        FountainCues x = withCodes(60);
        x.clearBuffer();
        due("when it was cleared", x.append('5'), 1);
    }

    private static void notComplete(String text) {
        Sentences.refused("cueAll of '" + text + "'", Sentences.ARGUMENT, () -> Shows.withText(text),
            FountainCues::cueAll);
    }

    private static void added(String text, int want) {
        due("cueAll of '" + text + "'", Shows.withText(text).cueAll(), want);
    }

    private static void parts() {
        hold("Cues as a text are one or more parts with \";\" between them");
        notComplete("");
        added("1@a0", 1);
        added("1@a0;2@a0", 2);
        FountainCues x = Shows.withText("999@h10;0@a0;10@b1");
        due("three parts", x.cueAll(), 3);
        int[][] cues = {{1, 0, 0, 0}, {2, 10, 1, 1}, {0, 999, 7, 10}};
        for (int i = 0; i < 12; i++) {
            due("of the place " + i / 4 + " the number " + i % 4, x.cueOf(i / 4, i % 4), cues[i / 4][i % 4]);
        }
        added("0@a0;1@a0;2@a0;3@a0;4@a0;5@a0;6@a0;7@a0;8@a0;9@a0;0@b0;11@b0", 12);
        notComplete("1@a0;");
        notComplete("1@a02@a0");
        notComplete("1@a0,2@a0");
        notComplete(";1@a0");
        notComplete("1@a0;;2@a0");
        notComplete(";");
    }

    private static void ticksAsText() {
        hold("each a tick, 0 to 999, without a leading zero, \"@\"");
        for (int tick : new int[] {0, 1, 9, 10, 99, 100, 999}) {
            FountainCues x = Shows.withText(tick + "@a1");
            due("cueAll at " + tick, x.cueAll(), 1);
            due("its tick " + tick, x.cueOf(0, 1), tick);
        }
        for (String tick : new String[] {"", "00", "01", "010", "000", "1000", "-1", "+1"}) {
            notComplete(tick + "@a1");
        }
        notComplete("1a1");
        notComplete("1@@a1");
    }

    private static void jetsAsText() {
        hold("a jet as a letter, \"a\" to \"h\" (0 to 7)");
        for (int jet = 0; jet < 8; jet++) {
            FountainCues x = Shows.withText("1@" + (char) ('a' + jet) + "1");
            due("cueAll of the jet " + jet, x.cueAll(), 1);
            due("its jet " + jet, x.cueOf(0, 2), jet);
        }
        for (String jet : new String[] {"", "`", "i", "A", "H", "0", "7", "aa"}) {
            notComplete("1@" + jet + "1");
        }
    }

    private static void aimsAsText() {
        hold("and an aim, 0 to 10, without a leading zero.");
        for (int aim = 0; aim <= 10; aim++) {
            FountainCues x = Shows.withText("1@a" + aim);
            due("cueAll of the aim " + aim, x.cueAll(), 1);
            due("its aim " + aim, x.cueOf(0, 3), aim);
        }
        for (String aim : new String[] {"", "00", "01", "010", "11", "19", "20", "100", "-1"}) {
            notComplete("1@a" + aim);
        }
    }

    /** Behind each of these beginnings, which characters may come. */
    private static void syntaxErrors() {
        hold("The buffer is read from left to right; a character is a syntax error if no cues as a text, of any "
            + "length, begin with the characters before it and this character.");
        String digits = "0123456789";
        String[][] beginnings = {{"", digits}, {"0", "@"}, {"1", digits + "@"}, {"9", digits + "@"},
            {"10", digits + "@"}, {"99", digits + "@"}, {"100", "@"}, {"999", "@"}, {"0@", "abcdefgh"},
            {"999@", "abcdefgh"}, {"5@a", digits}, {"5@h", digits}, {"5@a0", ";"}, {"5@a1", "0;"}, {"5@a2", ";"},
            {"5@a9", ";"}, {"5@a10", ";"}, {"5@a1;", digits}, {"5@a10;", digits}, {"5@a10;0", "@"},
            {"5@a10;99", digits + "@"}, {"5@a10;999", "@"}, {"0@a0;0@a0;0@a1", "0;"}};
        for (String[] beginning : beginnings) {
            for (char code = 33; code <= 126; code++) {
                String text = beginning[0] + code;
                int want = beginning[1].indexOf(code) >= 0 ? text.length() : text.length() - 1;
                due(text, Shows.withText(text).firstError(), want);
            }
        }
        due("an empty buffer", new FountainCues().firstError(), 0);
        String full = "100@a10;".repeat(7) + "100@";
        due("a full buffer that longer ones begin with", Shows.withText(full).firstError(), 60);
        due("its last character", Shows.withText(full.substring(0, 59) + "a").firstError(), 59);
        due("its first character", Shows.withText("@" + full.substring(1)).firstError(), 0);
        due("the first of several", Shows.withText("5@x!;").firstError(), 2);
    }

    // Undo

    /** The call saves one state, the one from before it. */
    private static void saves(String what, Consumer<FountainCues> call) {
        FountainCues x = new FountainCues();
        call.accept(x);
        due(what + " saves", x.count(9), 1);
        String before = Sentences.story(new FountainCues());
        x.undo();
        is(what + " is undone", Sentences.story(x).equals(before));
    }

    private static void savedEvenIfNothingChanges() {
        hold("Each method that is marked \"undoable\" and does not throw an exception saves the state from "
            + "before it (also if it changes nothing)");
        saves("jet", x -> x.jet(0, 20, 3));
        saves("jet as it was", x -> x.jet(0, 5, 0));
        saves("aim", x -> x.aim(0, 10));
        saves("aim as it was", x -> x.aim(0, 0));
        saves("pump", x -> x.pump(1, 2000));
        saves("pump as it was", x -> x.pump(1, 300));
        saves("wind", x -> x.wind(20));
        saves("wind as it was", x -> x.wind(0));
        saves("fill", x -> x.fill(1));
        saves("set", x -> x.set(1, 50));
        saves("set as it was", x -> x.set(1, 2));
        saves("cue", x -> x.cue(0, 0, 0));
        saves("play", x -> x.play(1));
        FountainCues x = Shows.withCues(1);
        x.drop(0);
        due("drop saves", x.count(9), 2);
        Shows.type(x, "1@a0");
        x.cueAll();
        due("cueAll saves", x.count(9), 3);
        Shows.type(x, "1@a0");
        due("cueAll that adds nothing", x.cueAll(), 0);
        due("saves too", x.count(9), 4);
    }

    private static void notSaved() {
        hold("and does not throw an exception saves the state from before it");
        FountainCues x = Shows.busy();
        int saved = x.count(9);
        x.append('1');
        x.firstError();
        x.clearBuffer();
        x.jetOf(0, 5);
        x.pumpOf(0, 2);
        x.cueOf(0, 0);
        x.count(0);
        x.setting(0);
        x.refusal(50, 0, 1);
        x.ifPlayed(100, 0);
        x.mostAim(50, 0);
        x.fits(50, 0, 1);
        x.dryIn();
        x.share();
        x.digest();
        due("methods that are not marked save nothing", x.count(9), saved);
        due("undo saves nothing either", x.undo(), saved - 1);
        Sentences.refused("a cue that is refused", Sentences.STATE, Shows::busy, y -> y.cue(0, 0, 0));
    }

    private static void whatUndoBringsBack() {
        hold("all, also what is counted so far, but the buffer and the saved states.");
        FountainCues x = Shows.wideOpen();
        x.set(1, 50);
        x.cue(1, 0, 5);
        x.play(100);
        int[] before = {0, 1, 0, 5000, 0, 0, 0, 0, 0, 5};
        for (int what : new int[] {0, 1, 3, 4, 5, 6, 7, 8}) {
            is("count changes " + what, x.count(what) != before[what]);
        }
        Shows.type(x, "7@a1");
        x.undo();
        for (int what = 0; what < before.length; what++) {
            due("count before it " + what, x.count(what), before[what]);
        }
        due("ticks of the lamp", x.jetOf(0, 7), 0);
        due("the valve", x.jetOf(0, 2), 0);
        x.undo();
        whatUndoBringsBackOfCues();
        due("the number of the cue is free again", x.cue(3, 0, 1), 0);
        due("the buffer stays", x.clearBuffer(), 4);
        x.undo();
        due("it stays cleared", x.clearBuffer(), 0);
    }

    private static void whatUndoBringsBackOfCues() {
        FountainCues x = new FountainCues();
        int[][] cues = {{1, 0, 5, 7}, {0, 3, 2, 10}, {2, 999, 0, 0}};
        x.cue(3, 2, 10);
        x.cue(0, 5, 7);
        x.cue(999, 0, 0);
        x.drop(1);
        x.play(100);
        x.cue(998, 7, 3);
        x.undo();
        x.undo();
        x.undo();
        for (int i = 0; i < 12; i++) {
            due("of the place " + i / 4 + " the number " + i % 4, x.cueOf(i / 4, i % 4), cues[i / 4][i % 4]);
        }
        due("no fourth cue", x.cueOf(3, 0), -1);
    }

    private static void atMostSixStates() {
        hold("At most 6 states are saved; the oldest one is dropped first.");
        Sentences.refused("undo without any", Sentences.STATE, FountainCues::new, FountainCues::undo);
        for (int calls = 1; calls <= 14; calls++) {
            FountainCues x = new FountainCues();
            for (int wind = 1; wind <= calls; wind++) {
                x.wind(wind);
            }
            int saved = Math.min(calls, 6);
            due("saved behind " + calls, x.count(9), saved);
            for (int left = saved - 1; left >= 0; left--) {
                due("left behind " + calls, x.undo(), left);
            }
            due("the oldest that is left behind " + calls, x.count(2), calls - saved);
            Sentences.due("no more behind " + calls, Checks.thrownBy(x::undo), "IllegalStateException");
        }
    }

    // Exceptions

    private static void throwingChangesNothing() {
        hold("A call that throws an exception changes nothing.");
        refused("jet", Sentences.ARGUMENT, x -> x.jet(0, 3, 4));
        refused("aim", Sentences.ARGUMENT, x -> x.aim(0, 11));
        refused("pump", Sentences.ARGUMENT, x -> x.pump(0, 2001));
        refused("wind", Sentences.ARGUMENT, x -> x.wind(21));
        refused("fill", Sentences.ARGUMENT, x -> x.fill(10000));
        refused("set", Sentences.ARGUMENT, x -> x.set(2, 0));
        refused("cue that is over", Sentences.STATE, x -> x.cue(2, 0, 0));
        refused("cue that is double", Sentences.STATE, x -> x.cue(31, 5, 0));
        refused("cue that asks too much", Sentences.STATE, x -> x.cue(40, 0, 10));
        refused("drop", Sentences.INDEX, x -> x.drop(3));
        refused("play", Sentences.ARGUMENT, x -> x.play(101));
        refused("append", Sentences.ARGUMENT, x -> x.append(127));
        refused("cueAll", Sentences.ARGUMENT, FountainCues::cueAll);
        refused("jetOf", Sentences.ARGUMENT, x -> x.jetOf(0, 8));
        refused("pumpOf", Sentences.ARGUMENT, x -> x.pumpOf(0, 3));
        refused("cueOf", Sentences.ARGUMENT, x -> x.cueOf(-1, 0));
        refused("count", Sentences.ARGUMENT, x -> x.count(10));
        refused("setting", Sentences.INDEX, x -> x.setting(3));
        refused("refusal", Sentences.ARGUMENT, x -> x.refusal(1000, 0, 0));
        refused("ifPlayed", Sentences.ARGUMENT, x -> x.ifPlayed(101, 0));
        refused("mostAim", Sentences.ARGUMENT, x -> x.mostAim(1000, 0));
        refused("fits", Sentences.ARGUMENT, x -> x.fits(1000, 0, 0));
        Sentences.refused("fill above", Sentences.STATE, TermsBoundaryTest::full, x -> x.fill(1));
        Sentences.refused("cue beyond 16", Sentences.STATE, () -> Shows.withCues(16), x -> x.cue(1, 0, 0));
        Sentences.refused("append beyond 60", Sentences.STATE, () -> withCodes(60), x -> x.append('1'));
        Sentences.refused("undo of nothing", Sentences.STATE, () -> Shows.withText("5@a1"), FountainCues::undo);
    }

    private static void refused(String what, Class<? extends Exception> type, Consumer<FountainCues> call) {
        Sentences.refused(what, type, Shows::busy, call);
    }

    private static void namedFirst() {
        hold("If several exceptions apply, the one that is named first in the throws clause is thrown.");
        refused("jet: jet, size and colour", Sentences.INDEX, x -> x.jet(8, 0, 4));
        refused("aim: jet and aim", Sentences.INDEX, x -> x.aim(-1, 11));
        refused("pump: pump and limit", Sentences.INDEX, x -> x.pump(2, 2001));
        refused("set: setting and value", Sentences.INDEX, x -> x.set(3, -1));
        Sentences.refused("fill: range and above", Sentences.ARGUMENT, TermsBoundaryTest::full, x -> x.fill(10000));
        refused("cue: jet, tick, aim", Sentences.INDEX, x -> x.cue(1000, 8, 11));
        refused("cue: jet, tick", Sentences.INDEX, x -> x.cue(-1, -1, 0));
        refused("cue: jet, aim", Sentences.INDEX, x -> x.cue(50, 8, -1));
        refused("cue: jet and over", Sentences.INDEX, x -> x.cue(0, 8, 0));
        refused("cue: aim and over", Sentences.ARGUMENT, x -> x.cue(0, 0, 11));
        refused("cue: aim and double", Sentences.ARGUMENT, x -> x.cue(31, 5, 11));
        Supplier<FountainCues> sixteen = () -> Shows.withCues(16);
        Sentences.refused("cue: jet and 16", Sentences.INDEX, sixteen, x -> x.cue(50, 8, 0));
        Sentences.refused("cue: tick and 16", Sentences.ARGUMENT, sixteen, x -> x.cue(1000, 0, 0));
        Sentences.refused("append: code and 60", Sentences.ARGUMENT, () -> withCodes(60), x -> x.append(32));
        refused("jetOf: jet and what", Sentences.INDEX, x -> x.jetOf(8, 8));
        refused("pumpOf: pump and what", Sentences.INDEX, x -> x.pumpOf(-1, -1));
        refused("refusal: jet, tick and aim", Sentences.INDEX, x -> x.refusal(1000, 8, 11));
        refused("mostAim: jet and tick", Sentences.INDEX, x -> x.mostAim(1000, 8));
        refused("fits: jet, tick and aim", Sentences.INDEX, x -> x.fits(1000, -1, 11));
    }

    private static void nothingToReturn() {
        hold("The constants: `NONE = -1`: There is nothing to return.");
        due("NONE", FountainCues.NONE, -1);
        FountainCues x = new FountainCues();
        x.pump(0, 0);
        x.aim(0, 1);
        due("no cue", x.cueOf(0, 0), -1);
        due("no aim", x.mostAim(0, 1), -1);
        due("no tick", x.fits(0, 1, 0), -1);
        due("no dry tick", x.dryIn(), -1);
    }

    private static void callsOfAnObject() {
        Sentences.hold("What it is", "An object is used for at most 512 calls after it has been made");
        FountainCues x = Shows.wideOpen();
        x.set(1, 50);
        for (int i = 0; i < 245; i++) {
            x.fill(9600);
            x.play(12);
        }
        due("the 511th call", x.count(3), 5000);
        due("the 512th call", x.count(4), 245 * 12 * 800);
        FountainCues y = new FountainCues();
        for (int i = 0; i < 511; i++) {
            y.play(100);
        }
        due("the last tick that can come", y.count(0), 51100);
    }
}
