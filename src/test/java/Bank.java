import java.lang.reflect.InvocationTargetException;
import java.lang.reflect.Method;
import java.util.Arrays;
import java.util.HashMap;
import java.util.Map;
import java.util.Set;

/** A new object under one sentence of the document: each answer is looked at, and what status() tells behind it. */
final class Bank {
    private static final int MOST_CALLS = 512;
    private static final Set<String> CAN_BE_REFUSED = Set.of("contents", "gift", "table", "family", "refer", "parcel",
        "go", "want", "part", "road", "load", "rounds", "rules", "weigh");
    private static final Map<String, Method> FACE = new HashMap<>();

    static {
        for (Method method : FoodShares.class.getDeclaredMethods()) {
            FACE.put(method.getName(), method);
        }
    }

    private final Check check;
    private final String sentence;
    private final FoodShares x = new FoodShares();
    private int calls = 0;
    private int status = 0;

    Bank(Check check, String sentence) {
        this.check = check;
        this.sentence = sentence;
    }

    /** The call must answer so, and status() behind it must tell the code, 0, or, if it only asks, what it told. */
    Bank due(long want, String call, int... args) {
        boolean canBeRefused = CAN_BE_REFUSED.contains(call);
        int then = (int) Math.min(want, 0);
        // Another status() ahead, so that one that is not told, or is told by a call that only asks, is seen.
        if (canBeRefused ? status == then : status > -2) {
            bringStatus(then == -2 ? -1 : -2);
        }
        check.due(named(call, args), ask(call, args), want);
        if (canBeRefused) {
            status = then;
        }
        check.due("status() behind " + named(call, args), ask("status"), status);
        return this;
    }

    /** A call that sets the scene: it must not be refused, and may answer what it likes. */
    Bank did(String call, int... args) {
        check.due(named(call, args) + " must be taken", ask(call, args) >= 0);
        if (CAN_BE_REFUSED.contains(call)) {
            status = 0;
        }
        return this;
    }

    Bank did(int times, String call, int... args) {
        for (int i = 0; i < times; i++) {
            did(call, args);
        }
        return this;
    }

    /** Each of these numbers in turn stands for the argument at that place; all the calls must answer so. */
    Bank dueForEach(int[] numbers, int place, long want, String call, int... args) {
        for (int number : numbers) {
            int[] changed = args.clone();
            changed[place] = number;
            due(want, call, changed);
        }
        return this;
    }

    /** status() as it is, with no call ahead of it. */
    Bank dueStatus(int want) {
        check.due(sentence + ": status()", ask("status"), want);
        return this;
    }

    /** How many calls the object has had. */
    int calls() {
        return calls;
    }

    /** Puts a text (characters 0 .. 255) behind the TAPE. */
    Bank tape(String text) {
        int before = (int) ask("count", 14);
        for (int from = 0; from < text.length(); from += 20) {
            int[] five = new int[5];
            for (int i = 0; i < 20; i++) {
                five[i / 4] = five[i / 4] << 8 | (from + i < text.length() ? text.charAt(from + i) : ' ');
            }
            did("feed", five);
        }
        return did("end", before + text.length());
    }

    Bank rules(String text) {
        return tape(text).did("rules");
    }

    private void bringStatus(int code) {
        status = code;
        check.due(sentence + ": a call refused by " + code, code == -1 ? ask("go", 0) : ask("parcel", -1), code);
    }

    private String named(String call, int... args) {
        return sentence + ": " + call + Arrays.toString(args).replace('[', '(').replace(']', ')');
    }

    private long ask(String call, int... args) {
        calls++;
        check.due(sentence + ": no more than 512 calls are promised", calls <= MOST_CALLS);
        Object[] boxed = new Object[args.length];
        for (int i = 0; i < args.length; i++) {
            boxed[i] = args[i];
        }
        try {
            return ((Number) FACE.get(call).invoke(x, boxed)).longValue();
        } catch (InvocationTargetException thrown) {
            throw new IllegalStateException(named(call, args) + " threw", thrown.getCause());
        } catch (IllegalAccessException hidden) {
            throw new IllegalStateException(hidden);
        }
    }
}
