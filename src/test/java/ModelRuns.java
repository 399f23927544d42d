import java.util.Random;

/** Random runs of at most 512 calls, each answer held against the model's. */
public final class ModelRuns {
    private static final Due DUE = new Due();
    private static final String[] WORDS = {"a", "b", "c", "cat", "cats", "dog", "dogged", "dogs", "fishing", "fish",
        "mass", "sea", "ships", "ship", "abcdefghij", "king", "bed", "being", "sss", "s"};
    private static final int[] FAR = {Integer.MIN_VALUE, Integer.MAX_VALUE, -100, 100, 256, 4096};

    /** An object is used for at most 512 calls, of which a text takes 121 and then some to mend it. */
    private static final int LAST_TEXT = 260, MOST_CALLS = 500;

    private final Random random;
    private final TopicSeams x = new TopicSeams();
    private final Model model = new Model();
    private final String run;
    private int calls = 0;

    private ModelRuns(int seed) {
        random = new Random(seed);
        run = "run " + seed + ": ";
    }

    public static void main(String[] args) {
        for (int seed = 1; seed <= 400; seed++) new ModelRuns(seed).play();
        DUE.end();
    }

    private void play() {
        while (calls < 400) {
            int act = random.nextInt(40);
            if (act < 2 && calls < LAST_TEXT) {
                typeText();
            } else if (act == 2) {
                typeAny();
            } else if (act == 3 && random.nextInt(4) == 0) {
                same("digest()", x.digest(), model.digest());
            } else if (act < 18) {
                askNumbers(random.nextInt(9));
            } else if (act < 30) {
                askText(random.nextInt(10));
            } else {
                askSheets(random.nextInt(8));
            }
        }
        same("digest()", x.digest(), model.digest());
    }

    private void same(String call, long got, long due) {
        calls++;
        DUE.is(run + call, got, due);
    }

    /** Mostly near what is allowed, now and then far from it. */
    private int near(int least, int most) {
        int dice = random.nextInt(30);
        if (dice == 0) return FAR[random.nextInt(FAR.length)];
        if (dice == 1) return least - 1;
        if (dice == 2) return most + 1;
        return least + random.nextInt(most - least + 1);
    }

    private void typeText() {
        if (random.nextBoolean()) same("wipe()", x.wipe(), model.wipe());
        StringBuilder text = new StringBuilder();
        int vocabulary = 2 + random.nextInt(WORDS.length - 1);
        int sentences = random.nextInt(13);
        int longest = 1 + random.nextInt(random.nextInt(8) == 0 ? 9 : 3);
        for (int s = 0; s < sentences; s++) {
            int words = 1 + random.nextInt(longest);
            for (int w = 0; w < words; w++) text.append(w == 0 ? "" : " ").append(WORDS[random.nextInt(vocabulary)]);
            text.append(random.nextInt(3) == 0 ? ". " : ".");
        }
        for (int p = 0; p < text.length() && p < 120; p++) {
            int b = random.nextInt(900) == 0 ? near(0, 255) : text.charAt(p);
            same("type(" + b + ")", x.type(b), model.type(b));
        }
        while (calls < MOST_CALLS && model.fault(1) != -1 && random.nextInt(40) != 0) same("undo()", x.undo(), model.undo());
    }

    private void typeAny() {
        int b = random.nextInt(4) == 0 ? near(0, 255) : "ab. ".charAt(random.nextInt(4));
        same("type(" + b + ")", x.type(b), model.type(b));
    }

    private void askNumbers(int act) {
        int a = near(0, 3);
        int k = near(1, 8);
        switch (act) {
            case 0: {
                int v = near(0, a == 1 ? 40 : 4);
                same("set(" + a + ", " + v + ")", x.set(a, v), model.set(a, v));
                break;
            }
            case 1: {
                int bits = near(0, 4094) & (random.nextInt(6) == 0 ? -1 : -2);
                same("tell(" + bits + ")", x.tell(bits), model.tell(bits));
                break;
            }
            case 2: same("best(" + k + ")", x.best(k), model.best(k)); break;
            case 3: {
                int i = near(0, 7);
                same("seam(" + k + ", " + i + ")", x.seam(k, i), model.seam(k, i));
                break;
            }
            case 4: same("bent()", x.bent(), model.bent()); break;
            case 5: {
                int what = near(0, 1);
                same("drop(" + k + ", " + what + ")", x.drop(k, what), model.drop(k, what));
                break;
            }
            case 6: {
                int w = near(1, 11);
                same("apart(" + k + ", " + w + ")", x.apart(k, w), model.apart(k, w));
                break;
            }
            case 7: {
                int i = near(0, 12);
                int j = near(0, 12);
                same("cost(" + i + ", " + j + ")", x.cost(i, j), model.cost(i, j));
                break;
            }
            default: {
                int what = near(0, 8);
                same("count(" + what + ")", x.count(what), model.count(what));
            }
        }
    }

    private void askText(int act) {
        int s = near(0, 11);
        int what = near(0, 3);
        int t = near(0, 15);
        int g = near(1, 11);
        int two = near(0, 1);
        switch (act) {
            case 0: same("sentence(" + s + ", " + what + ")", x.sentence(s, what), model.sentence(s, what)); break;
            case 1: same("word(" + s + ", " + what + ")", x.word(s, what), model.word(s, what)); break;
            case 2: same("stem(" + t + ", " + what + ")", x.stem(t, what), model.stem(t, what)); break;
            case 3: same("letter(" + t + ", " + s + ")", x.letter(t, s), model.letter(t, s)); break;
            case 4: same("chains()", x.chains(), model.chains()); break;
            case 5: {
                int five = near(0, 4);
                same("chain(" + t + ", " + five + ")", x.chain(t, five), model.chain(t, five));
                break;
            }
            case 6: same("over(" + g + ", " + two + ")", x.over(g, two), model.over(g, two)); break;
            case 7: same("gap(" + g + ", " + two + ")", x.gap(g, two), model.gap(g, two)); break;
            case 8: same("deep(" + s + ")", x.deep(s), model.deep(s)); break;
            default: {
                int three = near(0, 2);
                same("fault(" + three + ")", x.fault(three), model.fault(three));
            }
        }
    }

    private void askSheets(int act) {
        int s = near(0, 3);
        int t = near(0, 3);
        int form = near(0, 2);
        int i = near(0, 9);
        int j = near(0, 9);
        int n = random.nextInt(5) == 0 ? near(-2, 60) : near(0, 12);
        int v = random.nextInt(3) == 0 ? random.nextInt() : "ab. ".charAt(random.nextInt(4));
        String at = "(" + s + ", " + form + ", " + i;
        switch (act) {
            case 0: same("sheet(" + s + ", " + form + ", " + n + ")", x.sheet(s, form, n), model.sheet(s, form, n)); break;
            case 1: {
                if (random.nextInt(4) == 0) same("lose(" + s + ")", x.lose(s), model.lose(s));
                break;
            }
            case 2: same("get" + at + ")", x.get(s, form, i), model.get(s, form, i)); break;
            case 3: {
                String call = "copy(" + s + ", " + i + ", " + t + ", " + j + ", " + n + ")";
                same(call, x.copy(s, i, t, j, n), model.copy(s, i, t, j, n));
                break;
            }
            case 4: {
                int k = near(1, 8);
                same("write(" + k + ", " + s + ")", x.write(k, s), model.write(k, s));
                break;
            }
            case 5: {
                if (random.nextInt(3) == 0) same("read(" + s + ")", x.read(s), model.read(s));
                break;
            }
            case 6: {
                for (int f = 0; f < 3; f++) same("get any", x.get(s, f, i), model.get(s, f, i));
                break;
            }
            default: same("put" + at + ", " + v + ")", x.put(s, form, i, v), model.put(s, form, i, v));
        }
    }
}
