import java.util.ArrayList;
import java.util.List;

/**
 * Promises 1 to 40 together: runs of calls in which the answers must agree with one another: forecasts with what
 * happens then, the display and the digest with the queries, action texts with the calls that they stand for. The
 * calls come from a fixed row of numbers, so they are the same each time.
 */
public final class AgreementTest {
    private static final int RUNS = 60;
    private static final int CALLS = 120;

    private static long seed;

    public static void main(String[] args) {
        for (int run = 1; run <= RUNS; run++) {
            seed = run;
            checkRun();
        }
        Check.end("AgreementTest");
    }

    private static int next(int bound) {
        seed = seed * 6364136223846793005L + 1442695040888963407L;
        return (int) ((seed >>> 33) % bound);
    }

    private static void checkRun() {
        List<int[]> calls = new ArrayList<>();
        for (int i = 0; i < CALLS; i++) {
            calls.add(i < 25 ? nextAddition() : nextCall());
            checkDigest(calls);
            checkDisplay(again(calls));
            checkFraction(again(calls));
            checkTicksToHome(calls);
        }
        checkTurns(calls);
        checkActions(again(calls), calls);
    }

    private static int[] nextAddition() {
        int low = next(1999) - 999;
        return new int[] {next(4), next(12) < 4 ? 0 : next(12), low, low + 1 + next(40), 1 + next(9)};
    }

    private static int[] nextCall() {
        int[] kinds = {4, 4, 4, 4, 5, 5, 5, 5, 5, 5, 6, 7, 7, 8, 9, 10, 11, 3};
        int detents = next(6) == 0 ? next(101) - 50 : next(5) - 2;
        int ticks = next(4) == 0 ? 1 + next(99) : 1 + next(8);
        return new int[] {kinds[next(kinds.length)], next(12), detents, ticks, next(3)};
    }

    /** Makes a call and returns its answer, or a number of its own for each exception. */
    private static int answer(KnobMenu x, int[] call) {
        try {
            return made(x, call);
        } catch (IndexOutOfBoundsException e) {
            return -5001;
        } catch (IllegalArgumentException e) {
            return -5002;
        } catch (IllegalStateException e) {
            return -5003;
        }
    }

    private static int made(KnobMenu x, int[] call) {
        switch (call[0]) {
            case 0: return x.addMenu(call[1]);
            case 1: return x.addNumber(call[1], call[2], call[3], call[4]);
            case 2: return x.addChoice(call[1], call[4]);
            case 3: return x.lock(call[1], call[4] - 1);
            case 4: return x.turn(call[2]);
            case 5: return x.press();
            case 6: return x.hold();
            case 7: return x.tick(call[3]);
            case 8: return x.set(call[4], call[3]);
            case 9: return x.takeBack();
            case 10: return x.savePreset(call[4]);
            default: return x.loadPreset(call[4]);
        }
    }

    /** A new object after the calls: each check takes one, for none is promised to answer more than 512 calls. */
    private static KnobMenu again(List<int[]> calls) {
        KnobMenu x = new KnobMenu();
        for (int[] call : calls) {
            answer(x, call);
        }
        return x;
    }

    private static int value(KnobMenu x, int item) {
        return x.kind(item) == 0 ? 0 : x.value(item);
    }

    private static void checkDigest(List<int[]> calls) {
        Check.equal("digest()", again(calls).digest(), Check.digestOf(again(calls)));
    }

    private static String name(KnobMenu x, int item) {
        return List.of("MENU ", "NUMBER ", "CHOICE ").get(x.kind(item)) + item;
    }

    private static void checkDisplay(KnobMenu x) {
        int item = x.chosen();
        String line0 = name(x, x.shown());
        String line1 = Check.line(x, 1);
        if (x.mode() == 1) {
            line0 = "EDIT " + item;
            line1 = Check.wide("", "" + x.draft());
        } else if (x.mode() == 2) {
            line0 = "CODE " + item;
            int place = line1.lastIndexOf('*') + 1;
            line1 = Check.wide("****".substring(0, place) + x.ifTurned(0) + "---".substring(place), "");
        } else if (item != KnobMenu.NONE) {
            String open = x.kind(item) == 0 ? ">" : "" + value(x, item);
            line1 = Check.wide(name(x, item), x.isClosed(item) ? "L" : open);
        } else {
            line1 = Check.wide(x.shown() == 0 ? "" : "BACK", "");
        }
        Check.equal("line 0", Check.line(x, 0), Check.wide(line0, ""));
        Check.equal("line 1", Check.line(x, 1), line1);
    }

    /** The limits of a number are not told by the object, so only the bounds of the fraction are checked here. */
    private static void checkFraction(KnobMenu x) {
        Check.isTrue("fraction() is from 0 to 1", x.fraction() >= 0.0 && x.fraction() <= 1.0);
    }

    private static void checkTicksToHome(List<int[]> calls) {
        KnobMenu x = again(calls);
        KnobMenu twin = again(calls);
        int ticks = 0;
        while (!twin.isHome() && ticks < 100) {
            twin.tick(1);
            ticks++;
        }
        Check.equal("ticksToHome()", x.ticksToHome(), twin.isHome() ? ticks : KnobMenu.NONE);
    }

    private static void checkTurns(List<int[]> calls) {
        long before = again(calls).digest();
        KnobMenu asked = again(calls);
        for (int detents = -50; detents <= 50; detents += 7) {
            Check.equal("turn(" + detents + ")", again(calls).turn(detents), asked.ifTurned(detents));
        }
        Check.equal("ifTurned changes nothing", asked.digest(), before);
    }

    private static void checkActions(KnobMenu x, List<int[]> calls) {
        KnobMenu twin = again(calls);
        int results = 0;
        for (int i = 0; i < 12; i++) {
            int detents = 1 + next(50);
            int ticks = 1 + next(99);
            String[] actions = {"p", "h", "r" + detents, "l" + detents, "t" + ticks, "p", "p", "r1", "l1"};
            int action = next(actions.length);
            Check.type(x, i == 0 ? actions[action] : "," + actions[action]);
            switch (action) {
                case 1 -> twin.hold();
                case 2 -> twin.turn(detents);
                case 3 -> twin.turn(-detents);
                case 4 -> twin.tick(ticks);
                case 7 -> twin.turn(1);
                case 8 -> twin.turn(-1);
                default -> results += twin.press();
            }
        }
        Check.equal("run()", x.run(), results);
        Check.equal("digest() after run()", x.digest(), twin.digest());
    }
}
