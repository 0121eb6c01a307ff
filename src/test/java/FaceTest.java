import java.lang.reflect.Constructor;
import java.lang.reflect.Field;
import java.lang.reflect.Method;
import java.lang.reflect.Modifier;
import java.util.Set;
import java.util.TreeSet;

// The face as the document has it, and no call that throws.
public final class FaceTest {
    private static final Set<String> FACE = Set.of(
        "public static final int NONE", "public BallotHouse(int)",
        "public int ballot(int,int,int)", "public boolean propose(int,int,long)", "public int again(int)",
        "public boolean deliver(int)", "public int settle(int)", "public boolean lose(int)",
        "public boolean twice(int)", "public boolean silent(int,boolean)", "public int promise(int)",
        "public int vote(int,int)", "public long value(int,int)", "public int of(int,int)",
        "public int answered(int,int)", "public long said(int,int)", "public int chosen(int)",
        "public long chosenValue(int)", "public boolean isOne(int)", "public int air(int,int)",
        "public int about(int)");
    private static final int[] ODD = {
        Integer.MIN_VALUE, Integer.MIN_VALUE + 1, -401, -25, -8, -2, -1, 0, 1, 2, 6, 7, 8, 9, 23, 24, 25, 31, 32, 33,
        63, 64, 65, 127, 128, 399, 400, 401, Integer.MAX_VALUE - 1, Integer.MAX_VALUE};

    private static int wrong = 0;

    private static void check(boolean holds, String what) {
        if (!holds) {
            wrong++;
            System.out.println("not so: " + what);
        }
    }

    public static void main(String[] args) {
        face();
        oddArguments();
        System.out.println(wrong == 0 ? "the face is as due" : wrong + " things are not as due");
        if (wrong != 0) {
            System.exit(1);
        }
    }

    private static String head(int modifiers, String rest) {
        String m = Modifier.toString(modifiers);
        return m.isEmpty() ? rest : m + " " + rest;
    }

    private static String list(Class<?>[] types) {
        StringBuilder all = new StringBuilder("(");
        for (int i = 0; i < types.length; i++) {
            all.append(i == 0 ? "" : ",").append(types[i].getName());
        }
        return all.append(")").toString();
    }

    private static void face() {
        Class<?> c = BallotHouse.class;
        check(c.getModifiers() == (Modifier.PUBLIC | Modifier.FINAL), "the class is public and final");
        Set<String> open = new TreeSet<>();
        Set<String> openNames = new TreeSet<>();
        Set<String> hiddenNames = new TreeSet<>();
        for (Field f : c.getDeclaredFields()) {
            if (!Modifier.isPrivate(f.getModifiers())) {
                open.add(head(f.getModifiers(), f.getType().getName() + " " + f.getName()));
            }
            check(!Modifier.isStatic(f.getModifiers()) || Modifier.isFinal(f.getModifiers()), f + " is final");
        }
        for (Constructor<?> k : c.getDeclaredConstructors()) {
            open.add(head(k.getModifiers(), "BallotHouse" + list(k.getParameterTypes())));
        }
        for (Method m : c.getDeclaredMethods()) {
            if (Modifier.isPrivate(m.getModifiers())) {
                hiddenNames.add(m.getName());
            } else {
                openNames.add(m.getName());
                open.add(head(m.getModifiers(), m.getReturnType().getName() + " " + m.getName() + list(m.getParameterTypes())));
            }
        }
        check(open.equals(FACE), "the open members are those of the document: " + open);
        hiddenNames.retainAll(openNames);
        check(hiddenNames.isEmpty(), "no private method has a public one's name: " + hiddenNames);
        for (Class<?> inside : c.getDeclaredClasses()) {
            check(Modifier.isStatic(inside.getModifiers()), inside + " is static");
            check(!Modifier.isPublic(inside.getModifiers()) && !Modifier.isProtected(inside.getModifiers()), inside + " is not open");
            check(inside.getDeclaredFields().length <= 24, inside + " has few fields");
        }
    }

    private static void callAll(BallotHouse x, int a, int b) {
        x.propose(a, b, 1L);
        x.again(a);
        x.deliver(a);
        x.settle(a > 100 ? 100 : a);
        x.lose(a);
        x.twice(a);
        x.silent(a, b % 2 == 0);
        x.promise(a);
        x.vote(a, b);
        x.value(a, b);
        x.of(a, b);
        x.answered(a, b);
        x.said(a, b);
        x.chosen(a);
        x.chosenValue(a);
        x.isOne(a);
        x.air(a, b);
        x.about(a);
        for (int c : ODD) {
            x.ballot(a, b, c);
        }
    }

    // Whatever the arguments and the state, a call answers; an exception would end this test.
    private static void oddArguments() {
        for (int voters : ODD) {
            BallotHouse x = new BallotHouse(voters);
            for (int a : ODD) {
                for (int b : ODD) {
                    callAll(x, a, b);
                }
            }
            x.settle(Integer.MAX_VALUE);
        }
        BallotHouse full = new BallotHouse(7);
        for (int i = 0; i < 24; i++) {
            full.ballot(127, 4, 4);
        }
        for (int i = 0; i < 400; i++) {
            full.twice(0);
        }
        for (int a : ODD) {
            for (int b : ODD) {
                callAll(full, a, b);
            }
        }
        full.settle(Integer.MAX_VALUE);
    }
}
