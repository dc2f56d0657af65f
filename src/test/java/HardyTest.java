import java.lang.reflect.InvocationTargetException;
import java.lang.reflect.Method;
import java.lang.reflect.Modifier;
import java.util.ArrayList;
import java.util.Comparator;
import java.util.List;
import java.util.Random;

/** Rule 7 of LANGUAGE.md: no call ever throws, whatever is asked, in any state, of an object of any age. */
public final class HardyTest {
    private static final int OBJECTS = 60;
    private static final int CALLS = 6000;
    private static final int[] FAR = {
        Integer.MIN_VALUE, Integer.MIN_VALUE + 1, -65536, -17, -2, -1, 7, 8, 15, 16, 31, 63, 64, 79, 80, 81, 255, 256,
        1023, 1024, 65536, 1 << 30, Integer.MAX_VALUE - 1, Integer.MAX_VALUE,
    };
    private static final String[] STATEMENTS = {
        "n2;", "n6;", "r01;", "r12;", "r23;", "r45;", "r30;", "f;", "s0w00;", "s1x01;", "s2j99;", "s3w50;", "s0a01;",
        "s4n30;", "l00;", "l11;", "l53;", "l22;", "i010;", "i231;", "i540;",
    };
    private static final String[] ODD = {";", "s", "r0", "n9;", "r77;", "s9w99;", "f;s0f9", "l99;", "i999;", "f1"};

    public static void main(String[] args) throws Exception {
        List<Method> face = new ArrayList<>();
        for (Method m : TrueOneWay.class.getDeclaredMethods()) {
            if (Modifier.isPublic(m.getModifiers())) {
                face.add(m);
            }
        }
        // The machine tells methods in any order, and the runs must be the same each time.
        face.sort(Comparator.comparing(Method::getName));
        for (int seed = 0; seed < OBJECTS; seed++) {
            live(new TrueOneWay(), face, new Random(seed), "object " + seed);
        }
        Check.end("HardyTest");
    }

    private static void live(TrueOneWay x, List<Method> face, Random random, String name) throws Exception {
        int signs = 0;
        for (int call = 0; call < CALLS; call++) {
            if (random.nextInt(20) == 0) {
                tell(x, random);
            }
            Method m = face.get(random.nextInt(face.size()));
            if (m.getName().equals("on") && random.nextInt(100) > 0) {
                continue; // It would undo all too often what was told.
            }
            Object[] given = new Object[m.getParameterCount()];
            StringBuilder told = new StringBuilder(name + ", call " + call + ": " + m.getName());
            for (int i = 0; i < given.length; i++) {
                given[i] = random.nextInt(4) == 0 ? FAR[random.nextInt(FAR.length)] : random.nextInt(4);
                told.append(' ').append(given[i]);
            }
            Check.isTrue(told.toString(), answers(x, m, given));
            signs = Math.max(signs, x.count(3));
        }
        Check.due(name + " came to six signs", 6, signs);
    }

    /** A statement, mostly one that can stand; now and then one that breaks off, behind whatever letters there are. */
    private static void tell(TrueOneWay x, Random random) {
        boolean odd = random.nextInt(6) == 0;
        if (!odd) {
            x.land();
        }
        String text = odd ? ODD[random.nextInt(ODD.length)] : STATEMENTS[random.nextInt(STATEMENTS.length)];
        for (char c : text.toCharArray()) {
            x.letter(c);
        }
        x.land();
    }

    private static boolean answers(TrueOneWay x, Method m, Object[] given) throws Exception {
        try {
            m.invoke(x, given);
            return true;
        } catch (InvocationTargetException e) {
            System.out.println(e.getCause());
            return false;
        }
    }
}
