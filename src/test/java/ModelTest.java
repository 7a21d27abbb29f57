import java.util.function.Supplier;

/** Long made-up runs of calls, each answer held against the Model's. The runs are the same each time. */
public final class ModelTest {
    private static final int RUNS = 250;
    private static final int CALLS = 400;

    private final FountainCues x = new FountainCues();
    private final Model model = new Model();
    private final int run;
    private final StringBuilder told = new StringBuilder();
    private long seed;
    private boolean wentWrong = false;

    private ModelTest(int run) {
        this.run = run;
        this.seed = 1000003L * run + 17;
    }

    public static void main(String[] args) {
        for (int run = 0; run < RUNS; run++) {
            new ModelTest(run).go();
        }
        Checks.close("ModelTest");
    }

    private void go() {
        if (run % 3 == 0) {
            openWide();
        }
        for (int call = 0; call < CALLS && !wentWrong; call++) {
            step();
            if (call % 20 == 19) {
                same("digest()", x::digest, model::digest);
            }
        }
    }

    /** A start that soon meets pump limits, dry ticks and cut heights. */
    private void openWide() {
        for (int jet = 0; jet < 8; jet++) {
            int j = jet;
            int size = below(20) + 1;
            same("jet(" + j + ", " + size + ", 0)", () -> x.jet(j, size, 0), () -> model.jet(j, size, 0));
            same("aim(" + j + ", 10)", () -> x.aim(j, 10), () -> model.aim(j, 10));
        }
        same("set(1, 50)", () -> x.set(1, 50), () -> model.set(1, 50));
    }

    private int below(int bound) {
        seed = seed * 6364136223846793005L + 1442695040888963407L;
        return (int) Math.floorMod(seed >>> 33, (long) bound);
    }

    /** Mostly in the range, often at its ends, at times outside. */
    private int pick(int least, int most) {
        switch (below(24)) {
            case 0: return least - 1;
            case 1: return most + 1;
            case 2: return below(2) == 0 ? Integer.MIN_VALUE : Integer.MAX_VALUE;
            case 3: case 4: return least;
            case 5: case 6: return most;
            default: return least + below(most - least + 1);
        }
    }

    private int pickTick() {
        int tick = x.count(0);
        return below(4) > 0 ? Math.min(999, Math.max(0, tick - 2 + below(14))) : pick(0, 999);
    }

    private void step() {
        int kind = below(30);
        if (kind < 6) {
            changeFountain(kind);
        } else if (kind < 14) {
            changeShow(kind);
        } else if (kind < 18) {
            useText(kind);
        } else if (kind < 24) {
            look(kind);
        } else {
            foresee(kind);
        }
    }

    private void changeFountain(int kind) {
        int jet = pick(0, 7);
        int pump = pick(0, 1);
        switch (kind) {
            case 0: {
                int size = pick(1, 20);
                int colour = pick(0, 3);
                same("jet(" + jet + ", " + size + ", " + colour + ")", () -> x.jet(jet, size, colour), () -> {
                    index(jet, 7);
                    within(size, 1, 20);
                    within(colour, 0, 3);
                    return model.jet(jet, size, colour);
                });
                break;
            }
            case 1: {
                int aim = pick(0, 10);
                same("aim(" + jet + ", " + aim + ")", () -> x.aim(jet, aim), () -> {
                    index(jet, 7);
                    within(aim, 0, 10);
                    return model.aim(jet, aim);
                });
                break;
            }
            case 2: {
                int limit = below(2) == 0 ? pick(0, 2000) : pick(100, 400);
                same("pump(" + pump + ", " + limit + ")", () -> x.pump(pump, limit), () -> {
                    index(pump, 1);
                    within(limit, 0, 2000);
                    return model.pump(pump, limit);
                });
                break;
            }
            case 3: {
                int wind = pick(0, 20);
                same("wind(" + wind + ")", () -> x.wind(wind), () -> {
                    within(wind, 0, 20);
                    return model.wind(wind);
                });
                break;
            }
            case 4: {
                int water = pick(1, 9999);
                same("fill(" + water + ")", () -> x.fill(water), () -> {
                    within(water, 1, 9999);
                    return model.fill(water);
                });
                break;
            }
            default: {
                int setting = pick(0, 2);
                int value = pick(setting == 2 ? 1 : 0, setting == 0 ? 20 : setting == 1 ? 50 : 10);
                same("set(" + setting + ", " + value + ")", () -> x.set(setting, value), () -> {
                    index(setting, 2);
                    within(value, new int[] {0, 0, 1}[setting], new int[] {20, 50, 10}[setting]);
                    return model.set(setting, value);
                });
            }
        }
    }

    private void changeShow(int kind) {
        int tick = pickTick();
        int jet = pick(0, 7);
        int aim = pick(0, 10);
        if (kind < 10) {
            same("cue(" + tick + ", " + jet + ", " + aim + ")", () -> x.cue(tick, jet, aim), () -> {
                inRange(tick, jet, aim);
                return model.cue(tick, jet, aim);
            });
        } else if (kind == 10) {
            int number = below(4) > 0 ? x.cueOf(below(16), 0) : pick(0, 40);
            same("drop(" + number + ")", () -> x.drop(number), () -> model.drop(number));
        } else if (kind < 13) {
            int ticks = below(5) > 0 ? below(6) + 1 : pick(1, 100);
            same("play(" + ticks + ")", () -> x.play(ticks), () -> {
                within(ticks, 1, 100);
                return model.play(ticks);
            });
        } else {
            for (int i = below(8); i >= 0; i--) {
                same("undo()", x::undo, model::undo);
            }
        }
    }

    private void useText(int kind) {
        if (kind == 14) {
            int code = pick(33, 126);
            add(code);
        } else if (kind == 15) {
            same("clearBuffer()", x::clearBuffer, model::clearBuffer);
        } else {
            same("clearBuffer()", x::clearBuffer, model::clearBuffer);
            String text = cuesAsText();
            for (int i = 0; i < text.length(); i++) {
                add(text.charAt(i));
            }
            same("firstError()", x::firstError, model::firstError);
            same("cueAll()", x::cueAll, model::cueAll);
        }
    }

    private void add(int code) {
        same("append(" + code + ")", () -> x.append(code), () -> {
            within(code, 33, 126);
            return model.append(code);
        });
        same("firstError()", x::firstError, model::firstError);
    }

    private String cuesAsText() {
        StringBuilder text = new StringBuilder();
        for (int i = below(9); i >= 0; i--) {
            text.append(Math.max(0, Math.min(pickTick(), 1000))).append('@').append((char) ('a' + below(8)));
            text.append(below(11)).append(i > 0 ? ";" : "");
        }
        if (below(3) == 0) {
            text.setCharAt(below(text.length()), "0123456789@;abhi".charAt(below(16)));
        }
        if (below(4) == 0) {
            text.deleteCharAt(below(text.length()));
        }
        return text.toString();
    }

    private void look(int kind) {
        int jet = pick(0, 7);
        int what = pick(0, kind == 18 ? 7 : kind == 19 ? 2 : kind == 20 ? 3 : 9);
        if (kind == 18) {
            same("jetOf(" + jet + ", " + what + ")", () -> x.jetOf(jet, what), () -> {
                index(jet, 7);
                within(what, 0, 7);
                return model.jetOf(jet, what);
            });
        } else if (kind == 19) {
            int pump = pick(0, 1);
            same("pumpOf(" + pump + ", " + what + ")", () -> x.pumpOf(pump, what), () -> {
                index(pump, 1);
                within(what, 0, 2);
                return model.pumpOf(pump, what);
            });
        } else if (kind == 20) {
            int place = below(3) > 0 ? below(6) : pick(0, 16);
            same("cueOf(" + place + ", " + what + ")", () -> x.cueOf(place, what), () -> {
                within(place, 0, Integer.MAX_VALUE);
                within(what, 0, 3);
                return model.cueOf(place, what);
            });
        } else if (kind == 21) {
            same("count(" + what + ")", () -> x.count(what), () -> {
                within(what, 0, 9);
                return model.count(what);
            });
        } else if (kind == 22) {
            int setting = pick(0, 2);
            same("setting(" + setting + ")", () -> x.setting(setting), () -> {
                index(setting, 2);
                return model.setting(setting);
            });
        } else {
            int tick = pickTick();
            int aim = pick(0, 10);
            same("refusal(" + tick + ", " + jet + ", " + aim + ")", () -> x.refusal(tick, jet, aim), () -> {
                inRange(tick, jet, aim);
                return model.refusal(tick, jet, aim);
            });
        }
    }

    private void foresee(int kind) {
        int tick = pickTick();
        int jet = pick(0, 7);
        if (kind < 26) {
            int ticks = pick(1, 100);
            int what = pick(0, 3);
            same("ifPlayed(" + ticks + ", " + what + ")", () -> x.ifPlayed(ticks, what), () -> {
                within(ticks, 1, 100);
                within(what, 0, 3);
                return model.ifPlayed(ticks, what);
            });
        } else if (kind == 26) {
            same("mostAim(" + tick + ", " + jet + ")", () -> x.mostAim(tick, jet), () -> {
                inRange(tick, jet, 0);
                return model.mostAim(tick, jet);
            });
        } else if (kind == 27) {
            int aim = pick(0, 10);
            same("fits(" + tick + ", " + jet + ", " + aim + ")", () -> x.fits(tick, jet, aim), () -> {
                inRange(tick, jet, aim);
                return model.fits(tick, jet, aim);
            });
        } else if (kind == 28) {
            same("dryIn()", x::dryIn, model::dryIn);
        } else {
            same("share()", x::share, model::share);
        }
    }

    private static void inRange(int tick, int jet, int aim) {
        index(jet, 7);
        within(tick, 0, 999);
        within(aim, 0, 10);
    }

    private static void index(int index, int most) {
        if (index < 0 || index > most) {
            throw new IndexOutOfBoundsException();
        }
    }

    private static void within(int value, int least, int most) {
        if (value < least || value > most) {
            throw new IllegalArgumentException();
        }
    }

    /** Behind the first wrong answer of a run the two may go apart, so the rest of the run tells nothing. */
    private void same(String call, Supplier<Object> got, Supplier<Object> want) {
        if (wentWrong) {
            return;
        }
        Object due = answer(want);
        Object is = answer(got);
        told.append(' ').append(call).append("->").append(due);
        if (!due.equals(is)) {
            wentWrong = true;
            System.out.println("the calls of run " + run + ":" + told);
        }
        Checks.due("run " + run + ": " + call, is, due);
    }

    private static Object answer(Supplier<Object> call) {
        try {
            return call.get();
        } catch (RuntimeException e) {
            return "throws." + e.getClass().getSimpleName();
        }
    }
}
