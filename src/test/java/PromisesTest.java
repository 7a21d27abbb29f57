/** Each promise of the document: ordinary calls, the edges it names, and wrong arguments. */
public final class PromisesTest {
    private static final Class<IndexOutOfBoundsException> INDEX = IndexOutOfBoundsException.class;
    private static final Class<IllegalArgumentException> ARGUMENT = IllegalArgumentException.class;
    private static final Class<IllegalStateException> STATE = IllegalStateException.class;
    private static final int LEAST = Integer.MIN_VALUE;
    private static final int MOST = Integer.MAX_VALUE;

    private PromisesTest() {
    }

    public static void main(String[] args) {
        newObject();
        jet();
        aim();
        pump();
        wind();
        fill();
        set();
        cue();
        drop();
        play();
        playWithCues();
        playDry();
        append();
        clearBuffer();
        firstError();
        cueAll();
        undo();
        undoOfEachCall();
        undoOfCuesAndHeights();
        jetOf();
        pumpOf();
        cueOf();
        count();
        setting();
        refusal();
        refusalByPump();
        ifPlayed();
        mostAim();
        fits();
        dryIn();
        share();
        digest();
        looksChangeNothing();
        Checks.close("PromisesTest");
    }

    private static void due(String what, long got, long want) {
        Checks.due(what, got, want);
    }

    // Promise 1

    private static void newObject() {
        due("NONE", FountainCues.NONE, -1);
        FountainCues x = new FountainCues();
        for (int jet = 0; jet < 8; jet++) {
            due("new size", x.jetOf(jet, 0), 5);
            for (int what = 1; what <= 7; what++) {
                due("new jetOf " + what, x.jetOf(jet, what), 0);
            }
        }
        for (int pump = 0; pump < 2; pump++) {
            due("new limit", x.pumpOf(pump, 0), 300);
            due("new pump asks", x.pumpOf(pump, 1), 0);
            due("new pump gives", x.pumpOf(pump, 2), 0);
        }
        due("new setting 0", x.setting(0), 4);
        due("new setting 1", x.setting(1), 2);
        due("new setting 2", x.setting(2), 3);
        for (int what = 0; what <= 9; what++) {
            due("new count " + what, x.count(what), what == 3 ? 5000 : 0);
        }
        due("new cueOf", x.cueOf(0, 0), -1);
        due("new buffer", x.clearBuffer(), 0);
    }

    // Promise 2

    private static void jet() {
        FountainCues x = new FountainCues();
        due("jet", x.jet(0, 20, 3), 5);
        due("jet again", x.jet(0, 1, 0), 20);
        due("jet 7", x.jet(7, 9, 2), 5);
        due("size", x.jetOf(0, 0), 1);
        due("colour", x.jetOf(0, 1), 0);
        due("size 7", x.jetOf(7, 0), 9);
        due("colour 7", x.jetOf(7, 1), 2);
        due("size of another", x.jetOf(6, 0), 5);
        due("jet is undoable", x.count(9), 3);
        Checks.refused("jet -1", x, INDEX, () -> x.jet(-1, 1, 0));
        Checks.refused("jet 8", x, INDEX, () -> x.jet(8, 1, 0));
        Checks.refused("jet 8 before its size", x, INDEX, () -> x.jet(8, 0, 9));
        Checks.refused("size 0", x, ARGUMENT, () -> x.jet(0, 0, 0));
        Checks.refused("size 21", x, ARGUMENT, () -> x.jet(0, 21, 0));
        Checks.refused("colour -1", x, ARGUMENT, () -> x.jet(0, 1, -1));
        Checks.refused("colour 4", x, ARGUMENT, () -> x.jet(0, 1, 4));
        Checks.refused("jet of the least number", x, INDEX, () -> x.jet(LEAST, 1, 0));
        Checks.refused("size of the greatest number", x, ARGUMENT, () -> x.jet(0, MOST, 0));
    }

    // Promise 3

    private static void aim() {
        FountainCues x = new FountainCues();
        due("aim", x.aim(3, 10), 0);
        due("aim again", x.aim(3, 0), 10);
        due("aim 7", x.aim(7, 4), 0);
        due("the aim is changed at once", x.jetOf(7, 3), 4);
        due("the valve is not", x.jetOf(7, 2), 0);
        x.play(1);
        due("the valve follows", x.jetOf(7, 2), 3);
        due("aim is undoable", x.count(9), 4);
        Checks.refused("aim of the jet -1", x, INDEX, () -> x.aim(-1, 0));
        Checks.refused("aim of the jet 8", x, INDEX, () -> x.aim(8, 11));
        Checks.refused("aim -1", x, ARGUMENT, () -> x.aim(0, -1));
        Checks.refused("aim 11", x, ARGUMENT, () -> x.aim(0, 11));
    }

    // Promise 4

    private static void pump() {
        FountainCues x = new FountainCues();
        due("pump", x.pump(0, 0), 300);
        due("pump again", x.pump(0, 2000), 0);
        due("pump 1", x.pump(1, 7), 300);
        due("limit 0", x.pumpOf(0, 0), 2000);
        due("limit 1", x.pumpOf(1, 0), 7);
        due("pump is undoable", x.count(9), 3);
        Checks.refused("pump -1", x, INDEX, () -> x.pump(-1, 0));
        Checks.refused("pump 2", x, INDEX, () -> x.pump(2, 2001));
        Checks.refused("limit -1", x, ARGUMENT, () -> x.pump(1, -1));
        Checks.refused("limit 2001", x, ARGUMENT, () -> x.pump(1, 2001));
    }

    // Promise 5

    private static void wind() {
        FountainCues x = new FountainCues();
        due("wind", x.wind(20), 0);
        due("wind again", x.wind(0), 20);
        due("wind once more", x.wind(4), 0);
        due("the wind", x.count(2), 4);
        due("wind is undoable", x.count(9), 3);
        Checks.refused("wind -1", x, ARGUMENT, () -> x.wind(-1));
        Checks.refused("wind 21", x, ARGUMENT, () -> x.wind(21));
    }

    // Promise 6

    private static void fill() {
        FountainCues x = new FountainCues();
        due("fill", x.fill(1), 5001);
        due("fill more", x.fill(9999), 15000);
        for (int i = 0; i < 8; i++) {
            x.fill(9999);
        }
        due("water", x.count(3), 94992);
        Checks.refused("one too much", x, STATE, () -> x.fill(5008));
        due("just full", x.fill(5007), 99999);
        due("fill is undoable", x.count(9), 6);
        Checks.refused("full", x, STATE, () -> x.fill(1));
        Checks.refused("fill 0", x, ARGUMENT, () -> x.fill(0));
        Checks.refused("fill -1", x, ARGUMENT, () -> x.fill(-1));
        Checks.refused("fill 10000, in range first", x, ARGUMENT, () -> x.fill(10000));
        Checks.refused("fill of the greatest number", x, ARGUMENT, () -> x.fill(MOST));
    }

    // Promise 7

    private static void set() {
        FountainCues x = new FountainCues();
        int[] least = {0, 0, 1};
        int[] most = {20, 50, 10};
        int[] first = {4, 2, 3};
        for (int setting = 0; setting < 3; setting++) {
            int s = setting;
            due("set " + s, x.set(s, most[s]), first[s]);
            due("set again " + s, x.set(s, least[s]), most[s]);
            due("setting " + s, x.setting(s), least[s]);
            Checks.refused("below setting " + s, x, ARGUMENT, () -> x.set(s, least[s] - 1));
            Checks.refused("above setting " + s, x, ARGUMENT, () -> x.set(s, most[s] + 1));
        }
        due("set is undoable", x.count(9), 6);
        Checks.refused("set -1", x, INDEX, () -> x.set(-1, 1));
        Checks.refused("set 3", x, INDEX, () -> x.set(3, 99));
    }

    // Promise 8

    private static void cue() {
        FountainCues x = new FountainCues();
        due("cue", x.cue(5, 1, 1), 0);
        due("cue at an earlier tick", x.cue(2, 1, 2), 1);
        due("cue of the same tick", x.cue(5, 0, 3), 2);
        due("cue in between", x.cue(4, 7, 10), 3);
        due("cue at the last tick", x.cue(999, 0, 0), 4);
        int[] order = {1, 3, 0, 2, 4};
        for (int place = 0; place < order.length; place++) {
            due("kept by ticks, then by numbers: " + place, x.cueOf(place, 0), order[place]);
        }
        due("cue is undoable", x.count(9), 5);
        Checks.refused("cue of the jet -1", x, INDEX, () -> x.cue(5, -1, 0));
        Checks.refused("cue of the jet 8", x, INDEX, () -> x.cue(1000, 8, 11));
        Checks.refused("cue at the tick -1", x, ARGUMENT, () -> x.cue(-1, 0, 0));
        Checks.refused("cue at the tick 1000", x, ARGUMENT, () -> x.cue(1000, 0, 0));
        Checks.refused("cue of the aim -1", x, ARGUMENT, () -> x.cue(0, 0, -1));
        Checks.refused("cue of the aim 11, before it is refused", x, ARGUMENT, () -> x.cue(5, 0, 11));
        Checks.refused("double cue", x, STATE, () -> x.cue(5, 0, 0));
        x.play(1);
        Checks.refused("cue at a tick that is over", x, STATE, () -> x.cue(0, 0, 0));
        due("a refused cue takes no number", x.cue(1, 0, 0), 5);
    }

    // Promise 9

    private static void drop() {
        FountainCues x = new FountainCues();
        x.cue(3, 0, 1);
        x.cue(1, 1, 2);
        x.cue(2, 2, 3);
        due("drop of the middle one", x.drop(2), 2);
        due("the first is left", x.cueOf(0, 0), 1);
        due("the last is left", x.cueOf(1, 0), 0);
        due("no other", x.cueOf(2, 0), -1);
        due("drop is undoable", x.count(9), 4);
        Checks.refused("drop of one that is gone", x, INDEX, () -> x.drop(2));
        Checks.refused("drop of none", x, INDEX, () -> x.drop(3));
        Checks.refused("drop -1", x, INDEX, () -> x.drop(-1));
        Checks.refused("drop of the greatest number", x, INDEX, () -> x.drop(MOST));
        due("drop of the first", x.drop(1), 1);
        due("drop of the only one", x.drop(0), 0);
        due("numbers of those that are gone are not used again", x.cue(9, 0, 1), 3);
        x.play(10);
        Checks.refused("drop of one that is done", x, INDEX, () -> x.drop(3));
    }

    // Promise 10

    private static void play() {
        FountainCues x = new FountainCues();
        due("play of nothing", x.play(100), 0);
        due("the next tick", x.count(0), 100);
        due("play is undoable as one call", x.count(9), 1);
        Checks.refused("play 0", x, ARGUMENT, () -> x.play(0));
        Checks.refused("play -1", x, ARGUMENT, () -> x.play(-1));
        Checks.refused("play 101", x, ARGUMENT, () -> x.play(101));
        x.jet(0, 7, 0);
        x.aim(0, 10);
        int[] parts = {3, 6, 9, 10, 10};
        int[] loss = {0, 0, 1, 1, 1};
        for (int i = 0; i < parts.length; i++) {
            due("lost in the tick " + i, x.play(1), loss[i]);
            due("parts behind the tick " + i, x.jetOf(0, 2), parts[i]);
        }
        x.aim(0, 5);
        x.play(1);
        due("closes by three parts", x.jetOf(0, 2), 7);
        x.play(1);
        due("closes no further than its aim", x.jetOf(0, 2), 5);
        x.set(2, 1);
        x.aim(0, 10);
        x.play(1);
        due("moves by the setting", x.jetOf(0, 2), 6);
        due("lost of several ticks", x.play(4), 0 + 1 + 1 + 1);
        lossesByWind();
    }

    private static void lossesByWind() {
        FountainCues x = Shows.wideOpen();
        due("two hundredths", x.play(1), 32);
        x.set(1, 50);
        due("fifty hundredths", x.play(1), 800);
        x.wind(3);
        due("the wind takes of all, besides", x.play(1), 800 + 48);
        x.set(1, 0);
        due("the wind alone", x.play(1), 48);
        x.wind(7);
        due("the wind cuts to 7, and takes of that", x.play(1), 1120 * 7 / 100);
        FountainCues y = new FountainCues();
        y.jet(0, 15, 0);
        y.aim(0, 10);
        y.set(2, 10);
        y.set(1, 1);
        y.wind(1);
        due("each loss is rounded down by itself", y.play(1), 1 + 1);
        due("water", y.count(3), 4998);
        due("lost", y.count(4), 2);
    }

    private static void playWithCues() {
        FountainCues x = new FountainCues();
        x.set(2, 10);
        x.cue(0, 0, 4);
        x.cue(1, 0, 6);
        x.cue(1, 4, 2);
        x.cue(3, 0, 0);
        x.play(1);
        due("the cue of the tick 0", x.jetOf(0, 2), 4);
        due("is gone", x.count(1), 3);
        due("is done", x.count(7), 1);
        x.aim(0, 9);
        x.play(1);
        due("a cue is stronger than the aim before", x.jetOf(0, 3), 6);
        due("another jet", x.jetOf(4, 2), 2);
        due("two more are done", x.count(7), 3);
        x.play(1);
        due("no cue here", x.jetOf(0, 2), 6);
        x.play(1);
        due("closed by a cue", x.jetOf(0, 2), 0);
        due("lamp of 0", x.jetOf(0, 7), 3);
        due("lamp of 4", x.jetOf(4, 7), 3);
        due("all are done", x.count(7), 4);
    }

    private static void playDry() {
        FountainCues x = Shows.wideOpen();
        x.set(1, 50);
        due("four ticks", x.play(4), 3200);
        due("just enough is left", x.play(1), 800);
        due("water", x.count(3), 1000);
        due("no dry tick", x.count(5), 0);
        int burned = x.jetOf(0, 7);
        due("dry ticks lose nothing", x.play(3), 0);
        due("dry ticks", x.count(5), 3);
        due("no lamp burns in them", x.jetOf(0, 7), burned);
        due("the ticks go on", x.count(0), 8);
        x.fill(600);
        due("water for one tick exactly", x.play(1), 800);
        due("it is not dry", x.count(5), 3);
        FountainCues y = Shows.wideOpen();
        y.set(1, 50);
        y.set(2, 1);
        y.aim(0, 0);
        y.play(20);
        due("lost while valves move slowly", y.count(4) + y.count(3), 5000);
    }

    // Promise 11

    private static void append() {
        FountainCues x = new FountainCues();
        due("append 33", x.append(33), 1);
        due("append 126", x.append(126), 2);
        Checks.refused("append 32", x, ARGUMENT, () -> x.append(32));
        Checks.refused("append 127", x, ARGUMENT, () -> x.append(127));
        Checks.refused("append -1", x, ARGUMENT, () -> x.append(-1));
        for (int i = 3; i <= 60; i++) {
            due("append to " + i, x.append(65), i);
        }
        Checks.refused("append to 61", x, STATE, () -> x.append(65));
        Checks.refused("append of a wrong code to 61", x, ARGUMENT, () -> x.append(127));
        due("append is not undoable", x.count(9), 0);
    }

    // Promise 12

    private static void clearBuffer() {
        FountainCues x = Shows.withText("5@a1");
        due("clearBuffer", x.clearBuffer(), 4);
        due("clearBuffer of nothing", x.clearBuffer(), 0);
        due("append after it", x.append(48), 1);
        due("clearBuffer is not undoable", x.count(9), 0);
        FountainCues y = new FountainCues();
        for (int i = 0; i < 60; i++) {
            y.append(48);
        }
        due("clearBuffer of a full one", y.clearBuffer(), 60);
    }

    // Promise 13

    private static void firstError() {
        String[] right = {"", "0", "5", "59", "599", "0@", "5@", "59@", "599@", "5@a", "5@h", "5@a0", "5@a1", "5@a10",
            "5@a9", "5@a0;", "5@a1;", "5@a10;", "5@a10;0", "5@a10;77@c2", "1@a1;2@b2;3@c3;4@d4;5@e5;6@f6;7@g7;8@h8"};
        for (String text : right) {
            due("firstError of " + text, Shows.withText(text).firstError(), text.length());
        }
        // The "!" stands ahead of the character that is wrong.
        String[] wrong = {"!x", "!@", "!;", "!/", "!:", "0!0", "0!1", "0!a", "100!0", "100!00", "5!a", "5!;", "5!-",
            "5@!i", "5@!A", "5@!`", "5@!0", "5@!@", "5@a!@", "5@a!;", "5@a!b", "5@a!/", "5@a!:", "5@a0!0", "5@a1!1",
            "5@a10!0", "5@a10!1", "5@a2!0", "5@a1!@", "5@a1;!;", "5@a1;!@", "5@a1;0!0", "5@a1;0!0@a1", "5@a1!,6@a1"};
        for (String marked : wrong) {
            String text = marked.replace("!", "");
            due("firstError of " + text, Shows.withText(text).firstError(), marked.indexOf('!'));
        }
        FountainCues x = Shows.withText("x5@a1");
        due("what comes behind does not mend it", x.firstError(), 0);
        due("firstError is not undoable", x.count(9), 0);
    }

    // Promise 14

    private static void cueAll() {
        FountainCues x = Shows.withText("12@b10;0@a0;999@h3");
        due("cueAll", x.cueAll(), 3);
        int[][] cues = {{1, 0, 0, 0}, {0, 12, 1, 10}, {2, 999, 7, 3}};
        for (int place = 0; place < cues.length; place++) {
            for (int what = 0; what <= 3; what++) {
                due("cue " + place + " number " + what, x.cueOf(place, what), cues[place][what]);
            }
        }
        due("the buffer is cleared", x.clearBuffer(), 0);
        due("cueAll is undoable as one call", x.count(9), 1);
        Shows.type(x, "12@b1;13@b1;13@b2;12@c1");
        due("those that are refused are left out", x.cueAll(), 2);
        int[] order = {1, 0, 4, 3, 2};
        for (int place = 0; place < order.length; place++) {
            due("they take no numbers: " + place, x.cueOf(place, 0), order[place]);
        }
        Shows.type(x, "12@b1");
        due("all are refused", x.cueAll(), 0);
        due("it is saved nonetheless", x.count(9), 3);
        due("and the buffer is cleared", x.clearBuffer(), 0);
        x.undo();
        x.undo();
        x.undo();
        due("undone", x.count(1), 0);
        due("the buffer does not come back", x.clearBuffer(), 0);
        for (String text : new String[] {"", "5", "5@", "5@a", "5@a1;", "5@a1;6", "x", "5@a11", "00@a1"}) {
            FountainCues y = Shows.withText(text);
            Checks.refused("cueAll of " + text, y, ARGUMENT, y::cueAll);
            due("the buffer stays", y.clearBuffer(), text.length());
        }
        cueAllOfMany();
    }

    private static void cueAllOfMany() {
        FountainCues x = new FountainCues();
        for (int part = 0; part < 3; part++) {
            Shows.type(x, "1@a1;2@a1;3@a1;4@a1;5@a1;6@a1;7@a1".replace('a', (char) ('a' + part)));
            due("no more than 16: " + part, x.cueAll(), part < 2 ? 7 : 2);
        }
        due("16", x.count(1), 16);
        FountainCues y = Shows.withText("5@a9;5@b9;5@c9;5@d9;6@d0;6@e9");
        for (int jet = 0; jet < 4; jet++) {
            y.jet(jet, 10, 0);
        }
        due("the cues before count for the pump", y.cueAll(), 5);
        due("the fourth is left out", y.refusal(5, 3, 3), 0);
        due("as its pump gives no more", y.refusal(5, 3, 4), 4);
    }

    // Promise 15

    private static void undo() {
        FountainCues x = new FountainCues();
        Checks.refused("undo of nothing", x, STATE, x::undo);
        for (int i = 1; i <= 9; i++) {
            x.wind(i);
            due("saved states", x.count(9), Math.min(i, 6));
        }
        for (int i = 8; i >= 3; i--) {
            due("undo", x.undo(), i - 3);
            due("wind then", x.count(2), i);
        }
        Checks.refused("undo of a seventh", x, STATE, x::undo);
        due("still the same", x.count(2), 3);
        x.wind(3);
        due("a call that changes nothing is saved too", x.count(9), 1);
        due("and undone", x.undo(), 0);
        due("wind", x.count(2), 3);
        FountainCues y = Shows.withText("5@a1");
        y.wind(1);
        Shows.type(y, ";6");
        y.undo();
        due("undo leaves the buffer", y.clearBuffer(), 6);
        undoAfterTheOldestWereDropped();
    }

    private static void undoAfterTheOldestWereDropped() {
        FountainCues x = new FountainCues();
        for (int i = 1; i <= 20; i++) {
            x.pump(0, i);
            if (i % 5 == 0) {
                x.undo();
                due("undo at " + i, x.pumpOf(0, 0), i - 1);
            }
        }
        int[] limits = {18, 17, 16, 14, 13};
        for (int limit : limits) {
            x.undo();
            due("undo to " + limit, x.pumpOf(0, 0), limit);
        }
        Checks.refused("undo of no more", x, STATE, x::undo);
    }

    private static void undoOfEachCall() {
        FountainCues x = Shows.wideOpen();
        x.set(1, 50);
        x.cue(1, 0, 5);
        x.cue(200, 0, 5);
        x.play(2);
        for (int i = 0; i < 6; i++) {
            x.wind(0);
        }
        long before = x.digest();
        Runnable[] calls = {() -> x.jet(0, 3, 3), () -> x.aim(0, 3), () -> x.pump(0, 3), () -> x.wind(9),
            () -> x.fill(99), () -> x.set(0, 9), () -> x.cue(9, 0, 1), () -> x.drop(1), () -> x.play(100)};
        for (int i = 0; i < calls.length; i++) {
            x.wind(0);
            calls[i].run();
            Checks.due("the call " + i + " changes something", x.digest() != before, true);
            due("undo of the call " + i, x.undo(), 5);
            x.wind(0);
            due("all is as before the call " + i, x.digest(), before);
        }
        Shows.type(x, "300@b1");
        x.cueAll();
        due("undo of cueAll", x.undo(), 5);
        x.wind(0);
        due("all is as before cueAll", x.digest(), before);
        x.cue(50, 0, 1);
        due("the number is free again", x.cueOf(0, 0), 2);
    }

    private static void undoOfCuesAndHeights() {
        FountainCues x = new FountainCues();
        x.set(2, 10);
        x.aim(0, 3);
        x.play(1);
        x.cue(1, 2, 9);
        x.cue(2, 5, 6);
        x.drop(0);
        x.undo();
        due("the dropped one is back", x.cueOf(0, 2), 2);
        due("the other is behind it", x.cueOf(1, 2), 5);
        x.play(2);
        due("done", x.count(7), 2);
        due("height", x.count(8), 9);
        x.undo();
        due("not done", x.count(7), 0);
        due("the height before", x.count(8), 3);
    }

    // Promise 16

    private static void jetOf() {
        FountainCues x = new FountainCues();
        x.jet(0, 20, 1);
        x.jet(1, 7, 2);
        x.aim(0, 10);
        x.aim(1, 7);
        x.aim(2, 10);
        x.set(2, 10);
        x.play(2);
        int[][] numbers = {{20, 1, 10, 10, 200, 200, 10, 2}, {7, 2, 7, 7, 49, 49, 7, 2}, {5, 0, 10, 10, 50, 50, 10, 2}};
        for (int jet = 0; jet < numbers.length; jet++) {
            for (int what = 0; what <= 7; what++) {
                due("jetOf(" + jet + ", " + what + ")", x.jetOf(jet, what), numbers[jet][what]);
            }
        }
        x.pump(0, 299);
        due("just enough", x.jetOf(0, 5), 200);
        x.pump(0, 298);
        due("by parts, rounded down", x.jetOf(0, 5), 199);
        due("the height too", x.jetOf(0, 6), 9);
        due("another", x.jetOf(1, 5), 48);
        due("the third", x.jetOf(2, 5), 49);
        x.pump(0, 0);
        due("nothing", x.jetOf(0, 5), 0);
        x.pump(0, 2000);
        jetOfInWind(x);
        Checks.refused("jetOf the jet -1", x, INDEX, () -> x.jetOf(-1, 0));
        Checks.refused("jetOf the jet 8", x, INDEX, () -> x.jetOf(8, 8));
        Checks.refused("jetOf what -1", x, ARGUMENT, () -> x.jetOf(0, -1));
        Checks.refused("jetOf what 8", x, ARGUMENT, () -> x.jetOf(0, 8));
    }

    private static void jetOfInWind(FountainCues x) {
        x.wind(4);
        due("a wind that cuts nothing", x.jetOf(0, 5), 200);
        x.wind(5);
        due("a wind that cuts to 9", x.jetOf(0, 5), 180);
        due("height 9", x.jetOf(0, 6), 9);
        due("a low jet is not cut", x.jetOf(1, 5), 49);
        x.wind(13);
        due("cut to 1", x.jetOf(0, 5), 20);
        due("the low one too", x.jetOf(1, 5), 7);
        x.wind(14);
        due("cut to 0", x.jetOf(0, 5), 0);
        x.wind(20);
        due("not below 0", x.jetOf(0, 5), 0);
        due("height 0", x.jetOf(0, 6), 0);
        due("it asks for as much", x.jetOf(0, 4), 200);
        x.set(0, 20);
        due("not cut by setting 0", x.jetOf(0, 5), 200);
        x.set(0, 19);
        due("cut by setting 0", x.jetOf(0, 5), 180);
        FountainCues y = Shows.wideOpen();
        y.set(1, 50);
        y.play(10);
        due("dry", y.count(5) > 0 ? 1 : 0, 1);
        due("whatever the basin has", y.jetOf(0, 5), 200);
        due("the height by that", y.jetOf(0, 6), 10);
    }

    // Promise 17

    private static void pumpOf() {
        FountainCues x = Shows.wideOpen();
        x.play(1);
        x.pump(1, 799);
        due("limit", x.pumpOf(0, 0), 2000);
        due("asks", x.pumpOf(0, 1), 800);
        due("gives", x.pumpOf(0, 2), 800);
        due("limit 1", x.pumpOf(1, 0), 799);
        due("asks 1", x.pumpOf(1, 1), 800);
        due("gives 1: each is rounded down", x.pumpOf(1, 2), 4 * 199);
        x.wind(9);
        due("cut by the wind", x.pumpOf(0, 2), 400);
        due("asks in the wind", x.pumpOf(0, 1), 800);
        x.aim(0, 0);
        x.aim(4, 0);
        x.aim(5, 0);
        x.play(1);
        due("by its own jets", x.pumpOf(0, 1), 600);
        due("by its own jets, 1", x.pumpOf(1, 1), 400);
        Checks.refused("pumpOf -1", x, INDEX, () -> x.pumpOf(-1, 0));
        Checks.refused("pumpOf 2", x, INDEX, () -> x.pumpOf(2, 3));
        Checks.refused("pumpOf what -1", x, ARGUMENT, () -> x.pumpOf(0, -1));
        Checks.refused("pumpOf what 3", x, ARGUMENT, () -> x.pumpOf(0, 3));
    }

    // Promise 18

    private static void cueOf() {
        FountainCues x = new FountainCues();
        x.cue(8, 2, 9);
        x.cue(7, 3, 10);
        int[][] cues = {{1, 7, 3, 10}, {0, 8, 2, 9}, {-1, -1, -1, -1}};
        for (int place = 0; place < cues.length; place++) {
            for (int what = 0; what <= 3; what++) {
                due("cueOf(" + place + ", " + what + ")", x.cueOf(place, what), cues[place][what]);
            }
        }
        due("no place 16", x.cueOf(16, 0), -1);
        due("no place so great", x.cueOf(MOST, 3), -1);
        Checks.refused("cueOf place -1", x, ARGUMENT, () -> x.cueOf(-1, 0));
        Checks.refused("cueOf the least place", x, ARGUMENT, () -> x.cueOf(LEAST, 0));
        Checks.refused("cueOf what -1", x, ARGUMENT, () -> x.cueOf(0, -1));
        Checks.refused("cueOf what 4", x, ARGUMENT, () -> x.cueOf(0, 4));
        Checks.refused("cueOf what 4 of none", x, ARGUMENT, () -> x.cueOf(9, 4));
    }

    // Promise 19

    private static void count() {
        FountainCues x = Shows.oneOpen();
        x.aim(4, 2);
        x.cue(1, 0, 5);
        x.cue(500, 0, 5);
        x.wind(2);
        x.play(3);
        int[] numbers = {4, 1, 2, 5000 - 4 - 3 * 4, 4 + 3 * 4, 0, 2, 1, 10, 6};
        for (int what = 0; what <= 9; what++) {
            due("count " + what, x.count(what), numbers[what]);
        }
        x.aim(0, 0);
        x.play(1);
        due("lamps that burn", x.count(6), 1);
        due("the greatest height stays", x.count(8), 10);
        x.wind(20);
        due("lamps that burn in the wind", x.count(6), 0);
        FountainCues y = Shows.wideOpen();
        y.pump(0, 100);
        y.pump(1, 70);
        y.set(2, 1);
        y.play(1);
        due("heights that are reached", y.count(8), 1);
        due("the jets of the pump 0 burn", y.count(6), 4);
        due("their lamps burned", y.jetOf(3, 7), 1);
        due("lamps of the others did not", y.jetOf(4, 7), 0);
        FountainCues z = Shows.wideOpen();
        z.set(1, 50);
        z.set(2, 1);
        z.play(100);
        due("lamps by heights, whatever the basin has", z.count(6), 8);
        Checks.due("but some ticks are dry", z.count(5) > 80, true);
        due("heights are reached in ticks that are not dry", z.count(8), 9);
        Checks.refused("count -1", x, ARGUMENT, () -> x.count(-1));
        Checks.refused("count 10", x, ARGUMENT, () -> x.count(10));
    }

    // Promise 20

    private static void setting() {
        FountainCues x = new FountainCues();
        x.set(0, 11);
        x.set(1, 12);
        x.set(2, 10);
        due("setting 0", x.setting(0), 11);
        due("setting 1", x.setting(1), 12);
        due("setting 2", x.setting(2), 10);
        Checks.refused("setting -1", x, INDEX, () -> x.setting(-1));
        Checks.refused("setting 3", x, INDEX, () -> x.setting(3));
    }

    // Promise 21

    private static void refusal() {
        FountainCues x = new FountainCues();
        due("not refused", x.refusal(0, 0, 0), 0);
        due("nor the last one", x.refusal(999, 7, 10), 0);
        x.play(10);
        due("over", x.refusal(9, 0, 0), 1);
        due("not over", x.refusal(10, 0, 0), 0);
        x.cue(20, 0, 1);
        due("double", x.refusal(20, 0, 2), 3);
        due("another jet", x.refusal(20, 1, 2), 0);
        due("another tick", x.refusal(21, 0, 2), 0);
        for (int i = 0; i < 15; i++) {
            due("not yet 16", x.refusal(20, 5, 1), 0);
            x.cue(30 + i, 0, 1);
        }
        due("16 cues", x.refusal(20, 5, 1), 2);
        due("16 cues before double", x.refusal(20, 0, 1), 2);
        due("over before 16 cues", x.refusal(9, 0, 0), 1);
        x.pump(0, 0);
        x.drop(5);
        due("double before the pump", x.refusal(20, 0, 9), 3);
        x.play(100);
        for (int i = 0; i < 9; i++) {
            x.play(100);
        }
        due("behind the tick 999", x.refusal(999, 0, 0), 1);
        Checks.refused("refusal of the jet -1", x, INDEX, () -> x.refusal(0, -1, 0));
        Checks.refused("refusal of the jet 8", x, INDEX, () -> x.refusal(-1, 8, 0));
        Checks.refused("refusal of the tick -1", x, ARGUMENT, () -> x.refusal(-1, 0, 0));
        Checks.refused("refusal of the tick 1000", x, ARGUMENT, () -> x.refusal(1000, 0, 0));
        Checks.refused("refusal of the aim -1", x, ARGUMENT, () -> x.refusal(0, 0, -1));
        Checks.refused("refusal of the aim 11", x, ARGUMENT, () -> x.refusal(0, 0, 11));
    }

    private static void refusalByPump() {
        FountainCues x = new FountainCues();
        x.jet(0, 20, 0);
        x.jet(1, 10, 0);
        x.aim(1, 10);
        due("just the limit", x.refusal(5, 0, 10), 0);
        x.pump(0, 299);
        due("one too much", x.refusal(5, 0, 10), 4);
        due("less", x.refusal(5, 0, 9), 0);
        due("the other pump", x.refusal(5, 4, 10), 0);
        x.cue(6, 1, 0);
        due("before that cue", x.refusal(5, 0, 10), 4);
        due("at its tick", x.refusal(6, 0, 10), 0);
        due("behind it", x.refusal(7, 0, 10), 0);
        x.cue(8, 1, 10);
        due("between the two", x.refusal(7, 0, 10), 0);
        due("the last of its cues counts", x.refusal(8, 0, 10), 4);
        x.cue(7, 0, 10);
        due("a cue may spoil later ticks", x.cueOf(1, 0), 2);
        due("then even the aim 0 is refused", x.refusal(8, 2, 0), 4);
        due("but the jet itself may close", x.refusal(8, 0, 9), 0);
        x.pump(0, 0);
        due("a pump that gives nothing", x.refusal(0, 0, 0), 4);
        x.aim(1, 0);
        due("but nothing is asked for", x.refusal(0, 0, 0), 0);
        due("one part is too much", x.refusal(0, 3, 1), 4);
        x.pump(0, 2000);
        x.aim(0, 10);
        x.play(1);
        x.aim(0, 0);
        x.pump(0, 100);
        due("by aims, not by valves", x.refusal(1, 1, 10), 0);
    }

    // Promise 22

    private static void ifPlayed() {
        FountainCues x = Shows.wideOpen();
        x.set(1, 50);
        x.cue(2, 0, 0);
        due("lost", x.ifPlayed(3, 0), 800 + 800 + 700);
        due("no dry ticks", x.ifPlayed(5, 1), 0);
        due("dry ticks", x.ifPlayed(100, 1), 95);
        due("lamps of the colour 0", x.ifPlayed(3, 3), 2 + 3);
        due("no lamps in dry ticks", x.ifPlayed(100, 3), 2 + 5);
        due("height", x.ifPlayed(1, 2), 10);
        due("lost by 100", x.ifPlayed(100, 0), x.play(100));
        due("height of dry ticks", x.ifPlayed(10, 2), 0);
        due("lost in dry ticks", x.ifPlayed(10, 0), 0);
        due("dry ticks that come, not those before", x.ifPlayed(10, 1), 10);
        due("no lamps", x.ifPlayed(10, 3), 0);
        FountainCues y = Shows.oneOpen();
        y.aim(0, 1);
        y.set(2, 1);
        due("the greatest height in them, not the one before", y.ifPlayed(2, 2), 9);
        due("play tells the same", y.ifPlayed(7, 0), y.play(7));
        Checks.refused("ifPlayed 0", y, ARGUMENT, () -> y.ifPlayed(0, 0));
        Checks.refused("ifPlayed 101", y, ARGUMENT, () -> y.ifPlayed(101, 0));
        Checks.refused("ifPlayed what -1", y, ARGUMENT, () -> y.ifPlayed(1, -1));
        Checks.refused("ifPlayed what 4", y, ARGUMENT, () -> y.ifPlayed(1, 4));
        Checks.refused("ifPlayed of the greatest number", y, ARGUMENT, () -> y.ifPlayed(MOST, 0));
    }

    // Promise 23

    private static void mostAim() {
        FountainCues x = new FountainCues();
        due("all", x.mostAim(0, 0), 10);
        due("at the last tick", x.mostAim(999, 7), 10);
        x.jet(0, 20, 0);
        x.pump(0, 99);
        due("as much as the pump gives", x.mostAim(0, 0), 4);
        x.pump(0, 100);
        due("just as much", x.mostAim(0, 0), 5);
        x.pump(0, 19);
        due("only closed", x.mostAim(0, 0), 0);
        x.aim(1, 4);
        due("not even closed", x.mostAim(0, 0), -1);
        due("the other pump", x.mostAim(0, 4), 10);
        x.cue(3, 4, 1);
        due("double", x.mostAim(3, 4), -1);
        x.play(4);
        due("over", x.mostAim(3, 5), -1);
        for (int i = 0; i < 16; i++) {
            x.cue(100 + i, 4, 0);
        }
        due("16 cues", x.mostAim(50, 4), -1);
        Checks.refused("mostAim of the jet -1", x, INDEX, () -> x.mostAim(0, -1));
        Checks.refused("mostAim of the jet 8", x, INDEX, () -> x.mostAim(1000, 8));
        Checks.refused("mostAim of the tick -1", x, ARGUMENT, () -> x.mostAim(-1, 0));
        Checks.refused("mostAim of the tick 1000", x, ARGUMENT, () -> x.mostAim(1000, 0));
    }

    // Promise 24

    private static void fits() {
        FountainCues x = new FountainCues();
        due("at once", x.fits(0, 0, 10), 0);
        due("at the last tick", x.fits(999, 0, 10), 999);
        x.cue(5, 0, 1);
        due("behind the only one", x.fits(5, 0, 1), 6);
        x.cue(6, 0, 1);
        due("behind double ones", x.fits(5, 0, 1), 7);
        due("before them", x.fits(4, 0, 1), 4);
        x.cue(999, 1, 1);
        due("double at the end", x.fits(999, 1, 1), -1);
        x.pump(0, 49);
        due("never", x.fits(0, 2, 10), -1);
        x.pump(0, 2000);
        x.play(3);
        due("from the tick that comes next", x.fits(0, 0, 1), 3);
        fitsByPump();
        Checks.refused("fits of the jet -1", x, INDEX, () -> x.fits(0, -1, 0));
        Checks.refused("fits of the jet 8", x, INDEX, () -> x.fits(0, 8, 11));
        Checks.refused("fits of the tick -1", x, ARGUMENT, () -> x.fits(-1, 0, 0));
        Checks.refused("fits of the tick 1000", x, ARGUMENT, () -> x.fits(1000, 0, 0));
        Checks.refused("fits of the aim -1", x, ARGUMENT, () -> x.fits(0, 0, -1));
        Checks.refused("fits of the aim 11", x, ARGUMENT, () -> x.fits(0, 0, 11));
    }

    private static void fitsByPump() {
        FountainCues x = new FountainCues();
        x.jet(0, 20, 0);
        x.jet(1, 20, 0);
        x.cue(10, 0, 10);
        x.cue(500, 0, 2);
        due("before the great one", x.fits(0, 1, 10), 0);
        due("put later until it fits", x.fits(10, 1, 10), 500);
        due("a small one fits", x.fits(10, 1, 5), 10);
        x.cue(500, 1, 1);
        due("not where there is one", x.fits(10, 1, 10), 501);
        x.cue(998, 0, 10);
        x.cue(999, 0, 1);
        due("only at the last tick", x.fits(998, 1, 10), 999);
        for (int i = 0; i < 11; i++) {
            x.cue(20 + i, 7, 0);
        }
        due("16 cues", x.fits(0, 5, 0), -1);
        FountainCues y = new FountainCues();
        for (int i = 0; i < 10; i++) {
            y.play(100);
        }
        due("the tick 1000 comes next", y.fits(0, 0, 0), -1);
        due("for the last tick too", y.fits(999, 0, 0), -1);
    }

    // Promise 25

    private static void dryIn() {
        FountainCues x = new FountainCues();
        due("never", x.dryIn(), -1);
        FountainCues y = Shows.wideOpen();
        y.set(1, 50);
        due("the sixth", y.dryIn(), 6);
        y.play(5);
        due("the next", y.dryIn(), 1);
        y.play(1);
        due("the next again", y.dryIn(), 1);
        y.fill(600);
        due("just enough for one", y.dryIn(), 2);
        y.cue(7, 0, 0);
        y.cue(8, 0, 10);
        due("cues are done in it", y.dryIn(), 2);
        FountainCues z = new FountainCues();
        z.jet(0, 20, 0);
        z.set(2, 10);
        z.cue(499, 0, 10);
        z.set(1, 50);
        due("not by 500", z.dryIn(), -1);
        dryInAtItsEnd();
    }

    /** 5 hundredths of 200 are 10 a tick: of 5180 - 200 * k water the last wet tick is told beforehand. */
    private static void dryInAtItsEnd() {
        FountainCues x = Shows.oneOpen();
        x.undo();
        x.set(1, 5);
        x.fill(180);
        due("the 500th", x.dryIn(), 500);
        x.fill(10);
        due("the 501st", x.dryIn(), -1);
        x.play(1);
        due("now the 500th", x.dryIn(), 500);
    }

    // Promise 26

    private static void share() {
        FountainCues x = new FountainCues();
        Checks.due("nothing is asked for", x.share(), 1.0);
        x.jet(0, 20, 0);
        x.aim(0, 10);
        x.aim(4, 10);
        x.set(2, 10);
        x.play(1);
        Checks.due("all comes", x.share(), 1.0);
        x.pump(0, 133);
        Checks.due("a part", x.share(), 183.0 / 250.0);
        x.wind(9);
        Checks.due("cut by the wind", x.share(), 125.0 / 250.0);
        x.wind(20);
        Checks.due("nothing comes", x.share(), 0.0);
        FountainCues y = new FountainCues();
        y.jet(0, 1, 0);
        y.aim(0, 1);
        y.play(1);
        Checks.due("the least that is asked for", y.share(), 1.0);
        due("the least jet has a height", y.jetOf(0, 6), 1);
        y.pump(0, 0);
        Checks.due("nothing of the least", y.share(), 0.0);
    }

    // Promise 27

    private static void digest() {
        due("digest of a new one", new FountainCues().digest(), digestByLooks(new FountainCues(), ""));
        FountainCues x = Shows.wideOpen();
        x.cue(3, 0, 4);
        x.cue(1, 5, 2);
        x.cue(20, 6, 2);
        x.wind(7);
        Shows.type(x, "5@a1;~");
        due("digest", x.digest(), digestByLooks(x, "5@a1;~"));
        x.play(3);
        x.pump(1, 333);
        due("digest with a share", x.digest(), digestByLooks(x, "5@a1;~"));
        x.play(100);
        x.wind(20);
        due("digest with the share 0.0", x.digest(), digestByLooks(x, "5@a1;~"));
        for (int limit = 0; limit < 400; limit++) {
            FountainCues y = Shows.oneOpen();
            y.jet(1, 1 + limit % 19, 0);
            y.aim(1, 10);
            y.play(1);
            y.pump(0, limit);
            due("digest with the limit " + limit, y.digest(), digestByLooks(y, ""));
        }
    }

    private static long digestByLooks(FountainCues x, String text) {
        long hash = 3121;
        for (int i = 0; i < 10; i++) {
            hash = 31 * hash + x.count(i);
        }
        for (int i = 0; i < 3; i++) {
            hash = 31 * hash + x.setting(i);
        }
        for (int i = 0; i < 64; i++) {
            hash = 31 * hash + x.jetOf(i / 8, i % 8);
        }
        for (int i = 0; i < 6; i++) {
            hash = 31 * hash + x.pumpOf(i / 3, i % 3);
        }
        for (int i = 0; i < 4 * x.count(1); i++) {
            hash = 31 * hash + x.cueOf(i / 4, i % 4);
        }
        for (int i = 0; i < 4; i++) {
            hash = 31 * hash + x.ifPlayed(9, i);
        }
        for (int i = 0; i < 8; i++) {
            hash = 31 * hash + x.mostAim(20, i);
            hash = 31 * hash + x.fits(20, i, 10);
        }
        hash = 31 * hash + x.dryIn();
        hash = 31 * hash + Double.doubleToLongBits(x.share());
        hash = 31 * hash + text.length();
        for (int i = 0; i < text.length(); i++) {
            hash = 31 * hash + text.charAt(i);
        }
        return hash;
    }

    private static void looksChangeNothing() {
        FountainCues x = Shows.wideOpen();
        x.cue(2, 0, 4);
        x.play(1);
        Shows.type(x, "5@a1");
        long before = x.digest();
        Runnable[] looks = {() -> x.jetOf(0, 5), () -> x.pumpOf(0, 2), () -> x.cueOf(0, 0), () -> x.count(6),
            () -> x.setting(0), () -> x.refusal(3, 0, 1), () -> x.ifPlayed(50, 0), () -> x.mostAim(3, 0),
            () -> x.fits(2, 0, 1), x::dryIn, x::share, x::digest, x::firstError};
        for (int i = 0; i < looks.length; i++) {
            looks[i].run();
            due("the look " + i + " changes nothing", x.digest(), before);
        }
    }
}
