import java.util.ArrayList;
import java.util.Arrays;
import java.util.List;

/** An object with the calls made on it, each told in words ("put 0 1"); no more than the 512 that are promised. */
final class Fires {
    static final int BAD = -1, NO = -2, FULL = -3, NONE = -4;
    static final int[] FAR = {Integer.MIN_VALUE, -65536, 65536, 99999, Integer.MAX_VALUE};

    private final EmberTale tale = new EmberTale();
    private final List<String> calls = new ArrayList<>();

    /** Laid by the text, which is wiped then. */
    static Fires laid(String text) {
        return written(text).does("lay", "wipe");
    }

    static Fires written(String text) {
        return new Fires().writes(text);
    }

    Fires writes(String text) {
        for (int i = 0; i < text.length(); i++) {
            does("write " + (int) text.charAt(i));
        }
        return this;
    }

    int asks(String call) {
        if (calls.size() == 512) {
            throw new IllegalStateException("more than 512 calls");
        }
        calls.add(call);
        String[] words = call.split(" ");
        int[] numbers = new int[4];
        for (int i = 1; i < words.length; i++) {
            numbers[i - 1] = Integer.parseInt(words[i]);
        }
        return Calls.of(tale, words[0], numbers);
    }

    int calls() {
        return calls.size();
    }

    /** Calls that are no edge of their own, but must not be refused for the test to mean something. */
    Fires does(String... some) {
        for (String call : some) {
            int got = asks(call);
            if (got == BAD || got == NO || got == FULL) {
                Edges.wrong(call + " answered " + got + ", it must do something here, behind " + this);
            }
        }
        return this;
    }

    Fires due(int want, String... some) {
        for (String call : some) {
            int got = asks(call);
            if (got != want) {
                Edges.wrong(call + " answered " + got + ", due is " + want + ", behind " + this);
            }
        }
        return this;
    }

    /** The calls "name 0", "name 1", .. with the answers that are due. */
    Fires each(String name, int... want) {
        for (int i = 0; i < want.length; i++) {
            due(want[i], name + " " + i);
        }
        return this;
    }

    /** How hot, which line, logs of wood 0 to 3, last wood, lines told. */
    Fires stands(int c, int... want) {
        return each("company " + c, want);
    }

    /** What stays, tell or meet answer for k = -1, 0, ..; beyond that row there is none. */
    Fires way(String call, int... want) {
        for (int k = -1; k < want.length - 1; k++) {
            due(want[k + 1], call + " " + k);
        }
        return due(NONE, call + " " + (want.length - 1), call + " 1000", call + " " + Integer.MAX_VALUE);
    }

    /** Each call answers so and nothing is another than before it. */
    Fires leaves(int want, String... some) {
        for (String call : some) {
            List<Integer> before = again().all();
            Fires asked = again();
            asked.due(want, call);
            List<Integer> behind = asked.all();
            if (!before.equals(behind)) {
                Edges.wrong(call + " changes something: " + before + ", then " + behind + ", behind " + this);
            }
        }
        return this;
    }

    /** A second object with the same calls behind it. */
    Fires again() {
        Fires twin = new Fires();
        for (String call : calls) {
            twin.asks(call);
        }
        return twin;
    }

    /** All that can be seen of the object, at last by undo and back: it is of no more use then. */
    List<Integer> all() {
        List<Integer> all = new ArrayList<>();
        for (int what = 0; what <= 9; what++) {
            all.add(asks("count " + what));
        }
        all.add(asks("fault"));
        for (int l = 0; l < all.get(0); l++) {
            for (int wood = 0; wood < 4; wood++) {
                all.add(asks("line " + l + " " + wood));
            }
        }
        for (int n = 0; n < 8; n++) {
            all.add(asks("rain " + n));
        }
        int companies = all.get(1);
        for (int c = 0; c < companies; c++) {
            all.add(asks("from " + c));
        }
        lookAt(companies, all);
        for (String name : new String[] {"undo", "back"}) {
            int left = asks(name);
            all.add(left);
            while (left >= 0) {
                lookAt(companies, all);
                left = asks(name);
                all.add(left);
            }
        }
        return all;
    }

    private void lookAt(int companies, List<Integer> all) {
        all.add(asks("count 2"));
        for (int c = 0; c < companies; c++) {
            for (int what = 0; what <= 7; what++) {
                all.add(asks("company " + c + " " + what));
            }
        }
    }

    /** Both are alike in all that can be seen. */
    static void same(Fires one, Fires other) {
        List<Integer> first = one.again().all();
        List<Integer> second = other.again().all();
        if (!first.equals(second)) {
            Edges.wrong("not alike: " + first + " and " + second + ", behind " + one + " and " + other);
        }
    }

    /** The calls made, letters written told as themselves. */
    @Override
    public String toString() {
        StringBuilder told = new StringBuilder();
        for (String call : calls) {
            int letter = call.startsWith("write ") ? Integer.parseInt(call.substring(6)) : -1;
            boolean plain = letter >= 32 && letter <= 126;
            told.append(plain ? String.valueOf((char) letter) : told.length() == 0 ? call : " " + call);
        }
        return told.toString();
    }

    /** The call, its number at the place (marked #) being each of these. */
    static String[] with(String call, int... numbers) {
        String[] some = new String[numbers.length];
        for (int i = 0; i < numbers.length; i++) {
            some[i] = call.replace("#", String.valueOf(numbers[i]));
        }
        return some;
    }

    /** Numbers far off on both sides, and the two next to what is allowed. */
    static int[] outside(int low, int high) {
        int[] some = Arrays.copyOf(FAR, FAR.length + 2);
        some[FAR.length] = low - 1;
        some[FAR.length + 1] = high + 1;
        return some;
    }
}
