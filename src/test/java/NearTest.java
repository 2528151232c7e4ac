import java.math.BigInteger;
import java.util.ArrayList;
import java.util.Arrays;
import java.util.List;
import java.util.Random;

/** Sheets on which two laws fit almost alike, though not quite: by less than one in 10 to the 9th. */
public final class NearTest {
    private static final String MIRROR = "sound a 0 5;sound b 7 5;sound c 19 5;sound d 31 5;sound e 45 5;voice 50 3;face 50 3;odds 9 5;";
    private static final int VOICE = 0;
    private static final int FACE = 1;
    private static final int TRIALS = 1500;
    private static final int SHEETS = 60;
    private static final int CALLS = 500;

    /** What the face makes of a trial, by what the voice makes of it. */
    record Trial(int who, int setting, int said, long part, long whole, long otherPart, long otherWhole) {
        double quotient() {
            return Math.log((double) part * otherWhole / ((double) whole * otherPart));
        }

        Trial mirrored() {
            int swapped = who % 10 * 10 + who / 10 % 10;
            return new Trial(swapped, setting % 10 * 10 + setting / 10, said, otherPart, otherWhole, part, whole);
        }
    }

    private static int passed = 0;
    private static int failed = 0;

    public static void main(String[] args) {
        List<Trial> trials = trials(new Random(7));
        int sheets = 0;
        for (int[] four : nearFours(trials)) {
            List<Trial> answers = new ArrayList<>();
            for (int k : four) {
                answers.add(trials.get(k));
            }
            if (order(answers) != 0) {
                for (int k = 0; k < sheets % 28; k++) {
                    Trial one = trials.get(k * 31 + sheets);
                    answers.add(one);
                    answers.add(one.mirrored());
                }
                compare(answers);
                sheets++;
            }
            if (sheets == SHEETS) {
                break;
            }
        }
        due("sheets", sheets, SHEETS);
        System.out.println("NearTest: " + passed + " passed, " + failed + " failed");
        if (failed > 0) {
            System.exit(1);
        }
    }

    private static void due(String call, int got, int want) {
        if (got == want) {
            passed++;
        } else {
            failed++;
            System.out.println(call + " answered " + got + ", due is " + want);
        }
    }

    private static LipsVoice mirror() {
        LipsVoice x = new LipsVoice();
        String padded = MIRROR + " ".repeat((20 - MIRROR.length() % 20) % 20);
        for (int k = 0; k < padded.length(); k += 20) {
            int[] n = new int[5];
            for (int j = 0; j < 20; j++) {
                n[j / 4] = n[j / 4] << 8 | padded.charAt(k + j);
            }
            x.feed(n[0], n[1], n[2], n[3], n[4]);
        }
        x.scene();
        return x;
    }

    private static List<Trial> trials(Random random) {
        List<Trial> all = new ArrayList<>();
        LipsVoice x = mirror();
        int calls = 0;
        while (all.size() < TRIALS) {
            if (calls > CALLS) {
                x = mirror();
                calls = 0;
            }
            calls += 4;
            int who = random.nextInt(5) * 10 + random.nextInt(5);
            int setting = random.nextInt(100);
            int said = random.nextInt(5);
            Trial one = new Trial(who, setting, said, x.weight(VOICE, who, setting, 0, said), x.weight(VOICE, who, setting, 0, -1),
                x.weight(FACE, who, setting, 0, said), x.weight(FACE, who, setting, 0, -1));
            if (one.part > 0 && one.otherPart > 0) {
                all.add(one);
            }
        }
        return all;
    }

    /** Fours of trials whose quotients, together, are off 1 by less than one in 10 to the 9th. */
    private static List<int[]> nearFours(List<Trial> trials) {
        int n = trials.size();
        double[] sums = new double[n * (n - 1) / 2];
        double[] quotients = trials.stream().mapToDouble(Trial::quotient).toArray();
        int filled = 0;
        for (int a = 0; a < n; a++) {
            for (int b = 0; b < a; b++) {
                sums[filled++] = quotients[a] + quotients[b];
            }
        }
        Arrays.sort(sums);
        List<double[]> near = new ArrayList<>();
        int low = 0;
        int high = sums.length - 1;
        while (low < high && near.size() < 4000) {
            double sum = sums[low] + sums[high];
            if (Math.abs(sum) < 9e-10 && Math.abs(sum) > 1e-13) {
                near.add(new double[] {sums[low], sums[high]});
            }
            if (sum < 0) {
                low++;
            } else {
                high--;
            }
        }
        return fours(quotients, near);
    }

    private static List<int[]> fours(double[] quotients, List<double[]> near) {
        List<int[]> all = new ArrayList<>();
        for (int k = 0; k < near.size() && all.size() < 4 * SHEETS; k += Math.max(1, near.size() / (4 * SHEETS))) {
            int[] low = pairOf(quotients, near.get(k)[0]);
            int[] high = pairOf(quotients, near.get(k)[1]);
            all.add(new int[] {low[0], low[1], high[0], high[1]});
        }
        return all;
    }

    private static int[] pairOf(double[] quotients, double sum) {
        for (int a = 0; a < quotients.length; a++) {
            for (int b = 0; b < a; b++) {
                if (quotients[a] + quotients[b] == sum) {
                    return new int[] {a, b};
                }
            }
        }
        throw new IllegalStateException("no such pair");
    }

    private static int order(List<Trial> answers) {
        BigInteger left = BigInteger.ONE;
        BigInteger right = BigInteger.ONE;
        for (Trial one : answers) {
            left = left.multiply(BigInteger.valueOf(one.part)).multiply(BigInteger.valueOf(one.otherWhole));
            right = right.multiply(BigInteger.valueOf(one.otherPart)).multiply(BigInteger.valueOf(one.whole));
        }
        return left.compareTo(right);
    }

    private static void compare(List<Trial> answers) {
        LipsVoice x = mirror();
        for (Trial one : answers) {
            x.answer(one.who, one.setting, 0, one.said);
        }
        due("answers", x.count(3), answers.size());
        int want = order(answers) > 0 ? 1 : 2;
        String sheet = "on a sheet of " + answers.size();
        due("more(VOICE, FACE) " + sheet, x.more(VOICE, FACE, -1), want);
        due("more(FACE, VOICE) " + sheet, x.more(FACE, VOICE, -1), 3 - want);
        while (x.count(3) > 4) {
            x.undo();
        }
        due("more(VOICE, FACE) of the first four", x.more(VOICE, FACE, 0), want);
    }
}
