import java.util.ArrayList;
import java.util.List;
import java.util.NoSuchElementException;
import java.util.function.Function;

/**
 * Long runs of calls from a fixed row of numbers. Each hour is worked out a second time here, in the plainest way, from what
 * the object tells before it; and what the document says of all runs is looked at after each call.
 */
public final class RandomRunsTest {
    private static final List<Function<FordToll, Integer>> CALLS = new ArrayList<>();
    private static long row = 1;

    public static void main(String[] args) {
        for (int run = 1; run <= 1500; run++) {
            row = run * 7919L;
            runOf(run, 120);
        }
        Check.end("RandomRunsTest");
    }

    private static int below(int bound) {
        row = row * 6364136223846793005L + 1442695040888963407L;
        return (int) ((row >>> 33) % bound);
    }

    /** A new object after the calls so far, so that no object is asked more than 512 times. */
    private static FordToll made() {
        FordToll ford = new FordToll();
        for (Function<FordToll, Integer> call : CALLS) {
            call.apply(ford);
        }
        return ford;
    }

    private static void runOf(int run, int calls) {
        CALLS.clear();
        List<String> before = new ArrayList<>();
        String saved = null;
        for (int call = 0; call < calls; call++) {
            String state = Check.state(made());
            int which = below(30);
            if (which == 0 && saved == null || which == 1) {
                CALLS.add(FordToll::save);
                saved = state;
            } else if (which == 2 && saved != null && below(3) == 0) {
                CALLS.add(FordToll::restore);
                before.clear();
                Check.is("34: restored, run " + run, Check.state(made()), saved);
            } else if (which == 3 && !before.isEmpty()) {
                CALLS.add(FordToll::undo);
                Check.is("32: undone, run " + run, Check.state(made()), before.remove(before.size() - 1));
            } else if (comesAbout(which, change(which), state)) {
                before.add(state);
                if (before.size() > 8) {
                    before.remove(0);
                }
            }
            looked(made(), before.size());
        }
    }

    private static Function<FordToll, Integer> change(int which) {
        int one = below(9);
        int stone = below(which == 6 ? 11 : 10);
        int height = which == 6 ? below(32) : 3 + below(10);
        int rain = below(which == 9 ? 11 : 4);
        int many = below(52);
        int load = below(5) == 0 ? below(23) : below(6);
        int hours = 1 + below(which == 23 ? 24 : 4);
        switch (which) {
            case 4: case 5: case 6: return ford -> ford.height(stone, height);
            case 7: case 8: case 9: return ford -> ford.rain(rain);
            case 10: case 11: return ford -> ford.letters(many);
            case 12: case 13: case 14: return ford -> ford.traveller(load);
            case 15: return ford -> ford.leave(one);
            case 16: return ford -> ford.stop(one);
            case 17: case 18: return ford -> ford.go(one);
            case 19: case 20: case 21: case 22: return ford -> ford.setOut(one);
            default: return ford -> ford.pass(hours);
        }
    }

    /** Whether the change came about; it throws nothing but what the document names, and then changes nothing. */
    private static boolean comesAbout(int which, Function<FordToll, Integer> change, String state) {
        FordToll ford = made();
        int got;
        try {
            got = change.apply(ford);
        } catch (IndexOutOfBoundsException | IllegalArgumentException | UnsupportedOperationException wrong) {
            Check.is("Terms, Exceptions: unchanged", Check.state(ford), state);
            return false;
        }
        if (which >= 12 && which <= 14) {
            arrived(ford, got);
        } else if (which > 22 || which < 4) {
            passed(ford, got);
        }
        CALLS.add(change);
        return true;
    }

    private static void arrived(FordToll ford, int one) {
        Check.is("10: the last number", one, ford.account(3) - 1);
        int load = ford.travellerOf(one, 1);
        int[] due = {load < 4 ? 0 : load < 9 ? 1 : 2, load, 0, -1, 0, 1, 0, 0, 0};
        for (int what = 0; what <= 8; what++) {
            Check.is("10: arrived, " + what, ford.travellerOf(one, what), due[what]);
        }
    }

    private static void passed(FordToll ford, int crossed) {
        Plain plain = new Plain(made());
        int before = plain.crossings;
        while (plain.hour < ford.account(0)) {
            plain.hourGoesBy();
        }
        Check.is("17: crossed", crossed, plain.crossings - before);
        Check.is("17: as worked out plainly", new Plain(ford).told(), plain.told());
    }

    private static void looked(FordToll ford, int changes) {
        Plain plain = new Plain(ford);
        int hours = below(61);
        Check.is("28: 18", ford.account(18), changes);
        Check.is("8: floodAgain", ford.floodAgain(hours), ford.flood(hours));
        Check.is("29: letters", ford.lettersAgain(), ford.account(8));
        Check.is("28: all are somewhere", ford.account(4) + ford.account(5) + ford.account(6), ford.account(3));
        int kinds = 0;
        for (int kind = 0; kind <= 2; kind++) {
            int steps = wetSteps(ford, kind);
            Check.is("19: wetSteps", steps, plain.wetSteps(kind));
            kinds |= steps >= 0 ? 1 << kind : 0;
        }
        Check.is("20: kinds", ford.kinds(), kinds);
        Check.is("26: line", Check.line(ford), plain.line());
        for (int traveller = 0; traveller < ford.account(3); traveller++) {
            Check.is("18: crossedIn", crossedIn(ford, traveller), new Plain(plain).crossedIn(traveller));
        }
        Check.is("9: clearIn", clearIn(ford), new Plain(plain).clearIn());
    }

    private static int wetSteps(FordToll ford, int kind) {
        try {
            return ford.wetSteps(kind);
        } catch (NoSuchElementException none) {
            return -1;
        }
    }

    private static int crossedIn(FordToll ford, int traveller) {
        try {
            return ford.crossedIn(traveller);
        } catch (NoSuchElementException none) {
            return -1;
        }
    }

    private static int clearIn(FordToll ford) {
        try {
            return ford.clearIn();
        } catch (NoSuchElementException none) {
            return -1;
        }
    }

    /** What the object tells, in rows, and an hour worked out on them by the document's sentences one by one. */
    private static final class Plain {
        private final int[] heights = new int[10];
        private final int[][] people;
        private int flood;
        private final int rain;
        private int hour;
        private int bag;
        private int delivered;
        private int crossings;
        private int backs;

        Plain(FordToll ford) {
            for (int stone = 0; stone < 10; stone++) {
                heights[stone] = ford.stoneOf(stone, 0);
            }
            people = new int[ford.account(3)][9];
            for (int one = 0; one < people.length; one++) {
                for (int what = 0; what < 9; what++) {
                    people[one][what] = ford.travellerOf(one, what);
                }
            }
            hour = ford.account(0);
            flood = ford.account(1);
            rain = ford.account(2);
            bag = ford.account(8);
            delivered = ford.account(10);
            crossings = ford.account(13);
            backs = ford.account(14);
        }

        Plain(Plain other) {
            System.arraycopy(other.heights, 0, heights, 0, 10);
            people = new int[other.people.length][];
            for (int one = 0; one < people.length; one++) {
                people[one] = other.people[one].clone();
            }
            hour = other.hour;
            flood = other.flood;
            rain = other.rain;
            bag = other.bag;
            delivered = other.delivered;
            crossings = other.crossings;
            backs = other.backs;
        }

        String told() {
            StringBuilder text = new StringBuilder();
            text.append(hour).append(' ').append(flood).append(' ').append(bag).append(' ').append(delivered);
            text.append(' ').append(crossings).append(' ').append(backs);
            for (int[] one : people) {
                text.append(" |");
                for (int number : one) {
                    text.append(' ').append(number);
                }
            }
            return text.toString();
        }

        int clearIn() {
            for (int hours = 0; hours <= 60; hours++) {
                boolean clear = true;
                for (int height : heights) {
                    clear &= flood <= height;
                }
                if (clear) {
                    return hours;
                }
                hourGoesBy();
            }
            return -1;
        }

        int crossedIn(int one) {
            if (people[one][4] == 0) {
                return -1;
            }
            int other = people[one][5] == 1 ? 10 : -1;
            for (int hours = 1; hours <= 60; hours++) {
                hourGoesBy();
                if (people[one][3] == other) {
                    return hours;
                }
            }
            return -1;
        }

        /** One traveller of the kind is put on the near bank and goes as far as the flood lets it. */
        int wetSteps(int kind) {
            int[] one = {kind, 0, 0, -1, 1, 1, 0, 0, 0};
            int steps = 0;
            while (one[3] < 10) {
                int place = one[3];
                step(one);
                if (one[3] == place) {
                    return -1;
                }
                steps += one[3] < 10 && heights[one[3]] <= flood + 2 ? 1 : 0;
            }
            return steps;
        }

        String line() {
            StringBuilder text = new StringBuilder();
            for (int height : heights) {
                text.append(flood > height ? '_' : flood >= height - 2 ? '~' : '.');
            }
            for (int one = people.length - 1; one >= 0; one--) {
                if (people[one][3] >= 0 && people[one][3] <= 9) {
                    text.setCharAt(people[one][3], (char) ('0' + one));
                }
            }
            return text.append(' ').append(flood).toString();
        }

        void hourGoesBy() {
            flood = Math.min(40, flood + rain);
            flood = flood > 4 ? Math.max(4, flood - 2) : flood;
            for (int[] one : people) {
                back(one);
            }
            for (int[] one : people) {
                if (one[4] == 1 && one[6] == 0) {
                    step(one);
                }
            }
            for (int[] one : people) {
                if (one[3] >= 0 && one[3] <= 9) {
                    one[2] = flood + 2 >= heights[one[3]] ? Math.min(20, one[2] + 2) : Math.max(0, one[2] - 1);
                }
            }
            stove(-1);
            stove(10);
            hour++;
        }

        private boolean onUnder(int place) {
            return place >= 0 && place <= 9 && flood > heights[place];
        }

        private void back(int[] one) {
            if (!onUnder(one[3])) {
                return;
            }
            while (onUnder(one[3])) {
                one[3] += one[5] == 1 ? -1 : 1;
            }
            one[2] = Math.min(20, one[2] + 5);
            backs++;
            if (one[3] == -1 || one[3] == 10) {
                one[4] = 0;
                one[6] = 0;
                bag += one[8];
                one[8] = 0;
            }
        }

        private void step(int[] one) {
            int next = one[3] + (one[5] == 1 ? 1 : -1);
            if (next == -1 || next == 10) {
                one[3] = next;
                one[4] = 0;
                one[5] = 1 - one[5];
                one[7]++;
                crossings++;
                delivered += one[8];
                one[8] = 0;
                return;
            }
            boolean dry = heights[next] > flood + 2;
            boolean awash = !dry && heights[next] >= flood;
            boolean leavesBank = one[3] == -1 || one[3] == 10;
            boolean can = dry;
            if (one[0] == 0) {
                can = dry || awash;
            } else if (one[0] == 1) {
                can = dry || awash && (leavesBank || !(heights[next] < heights[one[3]]));
            }
            if (can) {
                one[3] = next;
            }
        }

        private void stove(int bank) {
            boolean[] chosen = new boolean[people.length];
            for (int turn = 0; turn < 2; turn++) {
                int best = -1;
                for (int one = people.length - 1; one >= 0; one--) {
                    boolean fits = people[one][3] == bank && people[one][4] == 0 && people[one][2] > 0 && !chosen[one];
                    if (fits && (best < 0 || people[one][2] >= people[best][2])) {
                        best = one;
                    }
                }
                if (best >= 0) {
                    chosen[best] = true;
                }
            }
            for (int one = 0; one < people.length; one++) {
                if (chosen[one]) {
                    people[one][2] = Math.max(0, people[one][2] - 3);
                }
            }
        }
    }
}
