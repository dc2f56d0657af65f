import java.lang.reflect.Method;
import java.util.ArrayList;
import java.util.List;
import java.util.function.Supplier;

/** Two objects made alike: what a call changes in the one is seen by the other. */
final class Twins {
    private Twins() {
    }

    /** The call is refused with this number, this is counted once, and nothing else is changed. */
    static void refused(Supplier<TrueOneWay> made, int number, String name, int... args) {
        twins(made, number, number, name, args);
    }

    /** The call answers so, which is no refusal, and nothing is changed. */
    static void unchanged(Supplier<TrueOneWay> made, int answer, String name, int... args) {
        twins(made, answer, 0, name, args);
    }

    private static void twins(Supplier<TrueOneWay> made, int answer, int refusal, String name, int... args) {
        TrueOneWay one = made.get();
        TrueOneWay other = made.get();
        String called = name(name, args);
        Check.due(called, answer, call(one, name, args));
        for (int number = -1; number >= -6; number--) {
            int before = other.count(10 - number);
            Check.due(called + ": count(" + (10 - number) + ") behind it",
                    number == refusal ? before + 1 : before, one.count(10 - number));
        }
        alike(called, other, one);
    }

    /** All that can be asked of the two is alike, but the refusals; both are spent by this. */
    static void alike(String when, TrueOneWay want, TrueOneWay got) {
        List<String> wanted = told(want);
        List<String> had = told(got);
        for (int i = 0; i < Math.max(wanted.size(), had.size()); i++) {
            String due = i < wanted.size() ? wanted.get(i) : "nothing";
            String is = i < had.size() ? had.get(i) : "nothing";
            Check.isTrue(when + ": then " + is + ", due is " + due, is.equals(due));
        }
    }

    static int call(TrueOneWay x, String name, int... args) {
        Class<?>[] types = new Class<?>[args.length];
        Object[] boxed = new Object[args.length];
        for (int i = 0; i < args.length; i++) {
            types[i] = int.class;
            boxed[i] = args[i];
        }
        try {
            Method m = TrueOneWay.class.getMethod(name, types);
            return (Integer) m.invoke(x, boxed);
        } catch (ReflectiveOperationException e) {
            throw new IllegalStateException(name(name, args), e);
        }
    }

    private static String name(String name, int... args) {
        StringBuilder text = new StringBuilder(name).append('(');
        for (int i = 0; i < args.length; i++) {
            text.append(i == 0 ? "" : ", ").append(args[i]);
        }
        return text.append(')').toString();
    }

    private static void add(List<String> list, TrueOneWay x, String name, int... args) {
        list.add(name(name, args) + " = " + call(x, name, args));
    }

    /** What an object answers; its row, letters, found things and image are spent. It stays below 512 calls. */
    private static List<String> told(TrueOneWay x) {
        List<String> list = new ArrayList<>();
        land(list, x);
        for (int what = 0; what < 6; what++) {
            add(list, x, "sure", what);
        }
        add(list, x, "worlds", 0);
        add(list, x, "proof");
        if (x.count(9) == 1) {
            add(list, x, "go", 0, 0);
            add(list, x, "go", 1, 1);
        }
        if (x.count(7) > 0) {
            add(list, x, "book", 1);
        }
        add(list, x, "land");
        found(list, x);
        add(list, x, "on");
        land(list, x);
        found(list, x);
        return list;
    }

    private static void land(List<String> list, TrueOneWay x) {
        for (int what = 0; what < 10; what++) {
            add(list, x, "count", what);
        }
        for (int road = 0; road < x.count(1); road++) {
            for (int what = 0; what < 3; what++) {
                add(list, x, "road", road, what);
            }
        }
        for (int sign = 0; sign < x.count(3); sign++) {
            for (int what = 0; what < 4; what++) {
                add(list, x, "sign", sign, what);
            }
        }
        for (int place = 0; place < x.count(0); place++) {
            add(list, x, "shown", place);
        }
    }

    private static void found(List<String> list, TrueOneWay x) {
        while (x.count(4) > 0) {
            // The latest found thing is the first that is not so in a world which is as the others have it.
            add(list, x, "sure", 0);
            add(list, x, "sure", 3);
            add(list, x, "judge", 0);
            add(list, x, "forget");
        }
    }
}
