/** Shows that several tests start from. */
final class Shows {
    private Shows() {
    }

    static FountainCues withText(String text) {
        FountainCues x = new FountainCues();
        type(x, text);
        return x;
    }

    static void type(FountainCues x, String text) {
        for (int i = 0; i < text.length(); i++) {
            x.append(text.charAt(i));
        }
    }

    /** All jets of size 20, wide open in one tick, with pumps that give it all: 1600 a tick. */
    static FountainCues wideOpen() {
        FountainCues x = new FountainCues();
        for (int jet = 0; jet < 8; jet++) {
            x.jet(jet, 20, jet % 4);
            x.aim(jet, 10);
        }
        x.pump(0, 2000);
        x.pump(1, 2000);
        x.set(2, 10);
        return x;
    }

    /** The jet 0 of size 20 open by 10 parts: it asks for 200. */
    static FountainCues oneOpen() {
        FountainCues x = new FountainCues();
        x.jet(0, 20, 0);
        x.aim(0, 10);
        x.set(2, 10);
        x.play(1);
        return x;
    }

    /** The jet 0 of this size, open by these parts; no water was lost yet, and none will be but for the wind. */
    static FountainCues lossless(int size, int parts) {
        FountainCues x = new FountainCues();
        x.set(1, 0);
        x.set(2, 10);
        x.jet(0, size, 0);
        x.aim(0, parts);
        x.play(1);
        return x;
    }

    /** This much water, 1 to 10000, no jet is open, valves open at once, and nothing is lost but for the wind. */
    static FountainCues withWater(int water) {
        FountainCues x = oneOpen();
        x.set(1, 50);
        x.fill(4);
        x.play(49);
        x.jet(0, 1, 0);
        x.play(18);
        for (int parts : new int[] {10, 5, 3, 2}) {
            x.aim(0, parts);
            x.play(1);
        }
        x.aim(0, 0);
        x.set(1, 0);
        x.play(1);
        if (water > 1) {
            x.fill(water - 1);
        }
        return x;
    }

    /** As many cues, up to 16, each of the jet 7 with the aim 0, at the ticks 500, 501, .. */
    static FountainCues withCues(int cues) {
        FountainCues x = new FountainCues();
        for (int i = 0; i < cues; i++) {
            x.cue(500 + i, 7, 0);
        }
        return x;
    }

    /** A show with something of all: cues, losses, lamps, wind, a text, and five saved states. */
    static FountainCues busy() {
        FountainCues x = new FountainCues();
        x.jet(0, 20, 1);
        x.jet(5, 3, 2);
        x.aim(0, 10);
        x.fill(77);
        x.set(1, 9);
        x.cue(1, 1, 0);
        x.cue(30, 4, 5);
        x.aim(5, 7);
        x.cue(31, 5, 1);
        x.wind(6);
        x.pump(0, 150);
        x.drop(1);
        x.play(3);
        x.play(1);
        x.undo();
        type(x, "40@e1;4");
        return x;
    }
}
