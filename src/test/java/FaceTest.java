import java.lang.reflect.Constructor;
import java.lang.reflect.Field;
import java.lang.reflect.Member;
import java.lang.reflect.Method;
import java.lang.reflect.Modifier;
import java.util.ArrayList;
import java.util.Arrays;
import java.util.List;
import java.util.Random;
import java.util.TreeSet;

/** The public face as the document tells it; no call throws; a call that is refused changes nothing. */
public final class FaceTest {
    private static final String[] CALLS = {
        "field 1", "round 7", "given 2", "work 3", "root 1", "cubic 1", "good 0", "on 5", "touches 5",
        "points 0", "point 2", "flags 0", "flag 2", "go 2", "ring 1", "rings 0",
        "series 1", "determinant 1", "closes 1", "least 0", "multiple 2", "order 0", "curve 0", "chord 3", "all 3",
    };
    // Which of UNKNOWN, OUTSIDE, NO and NONE a promise names; none names STATE.
    private static final String[] REFUSALS = {
        "field -2", "round -2", "given -2", "work -2", "root -2 -6", "cubic -2", "good", "on -2", "touches -2",
        "points -5", "point -1 -2 -5", "flags -5", "flag -1 -2 -5", "go -1 -2 -5", "ring -1 -5", "rings -5",
        "series -2 -5", "determinant -2 -5", "closes -2 -5", "least -5 -6", "multiple -2 -5 -6", "order -5", "curve -5",
        "chord -1 -2 -5", "all -2 -5",
    };
    private static final TreeSet<String> seenRefusals = new TreeSet<>();
    private static int wrong = 0;

    private static void check(boolean holds, String what) {
        if (!holds) {
            wrong++;
            if (wrong <= 50) {
                System.out.println(what);
            }
        }
    }

    public static void main(String[] args) throws Exception {
        checkConstants();
        checkMembers();
        Random random = new Random(7);
        for (int run = 0; run < 60; run++) {
            callAnything(random);
        }
        for (String refusals : REFUSALS) {
            String[] words = refusals.split(" ");
            for (int n = 1; n < words.length; n++) {
                String refusal = words[0] + " " + words[n];
                check(seenRefusals.contains(refusal), "never answered: " + refusal);
            }
        }
        System.out.println(wrong == 0 ? "the face is as told" : wrong + " things are not as told");
        if (wrong != 0) {
            System.exit(1);
        }
    }

    private static void checkConstants() {
        check(ChordRings.NONE == -6, "NONE");
        check(ChordRings.UNKNOWN == -1, "UNKNOWN");
        check(ChordRings.OUTSIDE == -2, "OUTSIDE");
        check(ChordRings.STATE == -3, "STATE");
        check(ChordRings.NO == -5, "NO");
    }

    private static void checkMembers() {
        check(Modifier.isPublic(ChordRings.class.getModifiers()), "the class is not public");
        check(Modifier.isFinal(ChordRings.class.getModifiers()), "the class is not final");
        TreeSet<String> due = new TreeSet<>(Arrays.asList(CALLS));
        TreeSet<String> names = new TreeSet<>();
        for (String call : CALLS) {
            names.add(call.split(" ")[0]);
        }
        TreeSet<String> found = new TreeSet<>();
        for (Method method : ChordRings.class.getDeclaredMethods()) {
            if (Modifier.isPrivate(method.getModifiers())) {
                check(!names.contains(method.getName()), "a private method is named " + method.getName());
                continue;
            }
            check(Modifier.isPublic(method.getModifiers()), method.getName() + " is neither public nor private");
            check(method.getReturnType() == int.class, method.getName() + " does not answer an int");
            for (Class<?> type : method.getParameterTypes()) {
                check(type == int.class, method.getName() + " takes another thing than ints");
            }
            found.add(method.getName() + " " + method.getParameterCount());
        }
        check(found.equals(due), "the calls are " + found);
        Constructor<?>[] constructors = ChordRings.class.getDeclaredConstructors();
        check(constructors.length == 1 && constructors[0].getParameterCount() == 0, "the constructors");
        TreeSet<String> constants = new TreeSet<>();
        for (Field field : ChordRings.class.getDeclaredFields()) {
            if (!Modifier.isPrivate(field.getModifiers())) {
                constants.add(((Member) field).getName());
            }
        }
        check(constants.equals(new TreeSet<>(Arrays.asList("NONE", "UNKNOWN", "OUTSIDE", "STATE", "NO"))),
            "the constants are " + constants);
    }

    /** A run of 512 calls with numbers of all kinds; what is refused is looked at from all sides, on a second object. */
    private static void callAnything(Random random) throws Exception {
        List<Method> methods = new ArrayList<>();
        for (Method method : ChordRings.class.getDeclaredMethods()) {
            if (Modifier.isPublic(method.getModifiers())) {
                methods.add(method);
            }
        }
        methods.sort((first, second) -> first.getName().compareTo(second.getName()));
        ChordRings all = new ChordRings();
        ChordRings taken = new ChordRings();
        int p = 7;
        for (int n = 0; n < 512; n++) {
            Method method = methods.get(random.nextInt(methods.size()));
            if (random.nextInt(8) == 0) {
                method = ChordRings.class.getMethod("round", int.class, int.class, int.class, int.class, int.class,
                    int.class, int.class);
            }
            Object[] numbers = new Object[method.getParameterCount()];
            boolean tame = random.nextBoolean();
            for (int i = 0; i < numbers.length; i++) {
                numbers[i] = tame ? random.nextInt(i == 0 && numbers.length == 7 ? 2 : 5) : someNumber(random, p);
            }
            String call = method.getName() + Arrays.toString(numbers);
            try {
                int answer = (Integer) method.invoke(all, numbers);
                check(answer >= 0 || isNamed(method.getName(), answer), call + " answered " + answer);
                // Only calls that were not refused reach the second object: both must answer alike.
                if (answer >= 0) {
                    int again = (Integer) method.invoke(taken, numbers);
                    check(answer == again, call + " answered " + answer + ", without refused calls ahead " + again);
                    p = method.getName().equals("field") ? (Integer) numbers[0] : p;
                }
            } catch (java.lang.reflect.InvocationTargetException thrown) {
                check(false, call + " threw " + thrown.getCause());
            }
        }
    }

    private static boolean isNamed(String call, int refusal) {
        seenRefusals.add(call + " " + refusal);
        for (String refusals : REFUSALS) {
            String[] words = refusals.split(" ");
            if (words[0].equals(call)) {
                return Arrays.asList(words).contains("" + refusal);
            }
        }
        return false;
    }

    private static int someNumber(Random random, int p) {
        switch (random.nextInt(8)) {
            case 0: return random.nextInt();
            case 1: return random.nextBoolean() ? Integer.MIN_VALUE : Integer.MAX_VALUE;
            case 2: return random.nextInt(1003) - 1;
            case 3: return p - 1 + random.nextInt(3);
            case 4: return -1 - random.nextInt(3);
            case 5: return 100000 + random.nextInt(2);
            case 6: return random.nextInt(35);
            default: return random.nextInt(p);
        }
    }
}
