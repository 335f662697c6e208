import java.lang.reflect.InvocationTargetException;
import java.lang.reflect.Method;
import java.lang.reflect.Modifier;
import java.util.ArrayList;
import java.util.Comparator;
import java.util.List;

/** Long runs of calls, drawn by a fixed rule, with EvenBags and PlainBags side by side. */
public final class RandomRunsTest {
    private static final int[] EDGES = {Integer.MIN_VALUE, Integer.MAX_VALUE, -3, -2, -1, 0, 1, 2, 3, 4, 5, 6, 7, 8, 9, 10,
        11, 12, 15, 16, 17, 31, 32, 99, 100, 126, 127, 998, 999, 1000, 9999, 10000, 99999, 100000};
    private static final String[] MARKETS = {"p12,i20@4,s3,f15@3,p7@2,p30;10,5u,20,8", "s9,s8@1,i3@2,f5;7u,7", "f1,f2,i1;1,1,1,1,1",
        "p50@0,s50@5,p1;99u", " i 07 @ 2 , p 3 ; 4 u , 5 ", "p1,p2,p3,p4", "f99,i98,s97,p96,f95@1;9u,8,7u,6,5u"};
    private static long seed = 20261118;

    private static int draw(int below) {
        seed = seed * 6364136223846793005L + 1442695040888963407L;
        return (int) ((seed >>> 33) % below);
    }

    private static int between(int least, int most) {
        return least + draw(most - least + 1);
    }

    private static int number(String call, int place) {
        if (draw(12) == 0) {
            return EDGES[draw(EDGES.length)];
        }
        switch (call + place) {
            case "thing0": return between(0, 3);
            case "thing1": return draw(3) == 0 ? between(1, 99) : between(1, 12);
            case "set1": return between(1, 4);
            case "set2": return draw(2) == 0 ? between(0, 5) : between(0, 101);
            case "stretch0": return draw(3) == 0 ? between(1, 99) : between(1, 9);
            case "bag0": case "hands0": case "paper0": case "load0": return between(0, 2);
            case "bag2": return draw(2) == 0 ? between(0, 60) : between(100, 999);
            case "arm1": return between(1, 9);
            case "rule2": case "of1": case "bag1": case "uneven0": case "hands1": case "paper1": case "pole3": return between(0, 1);
            case "count0": return between(0, 6);
            case "told1": return between(0, 5);
            case "best0": return between(-2, 6);
            case "evenest1": case "moved2": case "buying0": return between(-1, 6);
            case "moved1": return draw(2) == 0 ? between(0, 99) : between(0, 9);
            case "pole2": return between(1, 999);
            case "bar0": case "bar1": return between(0, 15);
            case "hung0": return between(0, 5);
            case "tray2": case "pulled2": case "film2": case "lay2": return draw(3) == 0 ? between(-1, 12) : 0;
            case "tray3": return between(0, 120);
            case "tray4": case "pulled3": case "hung1": return between(0, 2);
            case "sheet2": return between(5, 16);
            case "item2": case "copy1": case "copy3": return between(0, 12);
            case "item1": case "tray1": case "pulled1": case "film1": case "lay1": case "sheet1": return draw(4) == 0 ? between(0, 3) : 2;
            default: return between(0, 4);
        }
    }

    private static Object[] arguments(String call, Class<?>[] types) {
        Object[] all = new Object[types.length];
        for (int k = 0; k < types.length; k++) {
            int v = number(call, k);
            if (types[k] == boolean.class) {
                all[k] = draw(2) == 0;
            } else if (types[k] == long.class) {
                all[k] = draw(9) == 0 ? ((long) draw(1 << 20) << 40) + v : draw(3) == 0 ? -1L : (long) between(-1, 3);
            } else {
                all[k] = v;
            }
        }
        return all;
    }

    private static List<Method> face() {
        List<Method> all = new ArrayList<>();
        for (Method m : EvenBags.class.getDeclaredMethods()) {
            if (Modifier.isPublic(m.getModifiers())) {
                all.add(m);
            }
        }
        all.sort(Comparator.comparing(Method::getName));
        return all;
    }

    private static int call(Object on, Method m, Object[] with) throws ReflectiveOperationException {
        return (Integer) m.invoke(on, with);
    }

    private static void both(EvenBags x, PlainBags y, String name, Object... with) throws ReflectiveOperationException {
        for (Method m : face()) {
            if (m.getName().equals(name)) {
                Method plain = PlainBags.class.getDeclaredMethod(name, m.getParameterTypes());
                int got;
                try {
                    got = call(x, m, with);
                } catch (InvocationTargetException thrown) {
                    System.out.println("thrown: " + thrown.getCause());
                    got = Integer.MIN_VALUE;
                }
                Check.due(name + java.util.Arrays.toString(with), got, call(y, plain, with));
            }
        }
    }

    private static void typeBoth(EvenBags x, PlainBags y, String text) throws ReflectiveOperationException {
        for (char c : text.toCharArray()) {
            both(x, y, "type", (int) c);
        }
        both(x, y, "market");
    }

    /** One of the markets, perhaps with a letter taken out, put in or changed. */
    private static String spoilt(String text) {
        String letters = "pisf0123456789@,;u x";
        StringBuilder s = new StringBuilder(text);
        for (int k = draw(3); k > 0; k--) {
            int at = draw(s.length());
            char c = letters.charAt(draw(letters.length()));
            switch (draw(3)) {
                case 0: s.deleteCharAt(at); break;
                case 1: s.insert(at, c); break;
                default: s.setCharAt(at, c);
            }
        }
        return s.toString();
    }

    private static void run(int calls, int mostThings) throws ReflectiveOperationException {
        EvenBags x = new EvenBags();
        PlainBags y = new PlainBags();
        if (draw(2) == 0) {
            typeBoth(x, y, spoilt(MARKETS[draw(MARKETS.length)]));
        }
        List<Method> face = face();
        for (int k = 0; k < calls; k++) {
            Method m = face.get(draw(face.size()));
            String name = m.getName();
            if (name.equals("thing") && x.count(0) >= mostThings || name.equals("type")) {
                continue;
            }
            if (name.equals("market") && draw(4) == 0) {
                typeBoth(x, y, spoilt(MARKETS[draw(MARKETS.length)]));
            } else if (!name.equals("market")) {
                both(x, y, name, arguments(name, m.getParameterTypes()));
            }
            if (name.equals("film")) {
                both(x, y, "pulled", 0, 2, 0, draw(3));
            }
            if (Check.wrong() > 20) {
                return;
            }
        }
        tell(x, y);
    }

    /** All that can be told of the state at the end of a run. */
    private static void tell(EvenBags x, PlainBags y) throws ReflectiveOperationException {
        for (int what = 0; what < 7; what++) {
            both(x, y, "count", what);
        }
        for (int t = 0; t < x.count(0); t++) {
            for (int what = 0; what < 6; what++) {
                both(x, y, "told", t, what);
            }
            both(x, y, "best", t);
            both(x, y, "buying", t);
        }
        both(x, y, "lawful");
        both(x, y, "uneven", 0);
        both(x, y, "uneven", 1);
        both(x, y, "best", -1);
        both(x, y, "best", -2);
    }

    /** The most THINGS, STRETCHES and LAWS that there can be. */
    private static void fullRun(int laws) throws ReflectiveOperationException {
        EvenBags x = new EvenBags();
        PlainBags y = new PlainBags();
        for (int t = 0; t < 11; t++) {
            both(x, y, "thing", draw(5) == 0 ? 2 : draw(4), between(1, 99));
            both(x, y, "set", t, 3, between(0, 100));
            both(x, y, "set", t, 2, between(1, 5));
            both(x, y, "set", t, 4, between(0, 2));
        }
        for (int s = 0; s < 6; s++) {
            both(x, y, "stretch", between(1, 99), draw(2) == 0);
        }
        for (int k = 0; k < laws; k++) {
            both(x, y, "rule", draw(10), draw(10), draw(4) / 3);
        }
        both(x, y, "bag", 2, 0, 150);
        both(x, y, "best", -2);
        both(x, y, "best", -1);
        both(x, y, "moved", 1, 100, -1);
        both(x, y, "pack");
        both(x, y, "buying", -1);
        both(x, y, "sheet", 1, 2, 5);
        both(x, y, "film", 1, 2, 0);
        for (int what = 0; what < 3; what++) {
            both(x, y, "pulled", 1, 2, 0, what);
        }
        for (int t = 0; t < 10; t++) {
            both(x, y, "told", t, 4);
            both(x, y, "evenest", draw(5), t);
        }
    }

    /** Light and heavy THINGS at near and far STALLS on both sides, some alike. */
    private static void shoppingRun() throws ReflectiveOperationException {
        EvenBags x = new EvenBags();
        PlainBags y = new PlainBags();
        int things = between(1, 7);
        for (int t = 0; t < things; t++) {
            both(x, y, "thing", 0, draw(2) == 0 ? between(1, 3) : between(1, 99));
            both(x, y, "set", t, 3, draw(3) == 0 ? 50 + between(-2, 2) : between(0, 100));
        }
        for (int i = -1; i < things; i++) {
            both(x, y, "buying", i);
        }
    }

    /** The same questions over and over, with a change now and then: none may be answered as it was ahead of it. */
    private static void nosyRun() throws ReflectiveOperationException {
        EvenBags x = new EvenBags();
        PlainBags y = new PlainBags();
        typeBoth(x, y, MARKETS[draw(MARKETS.length)]);
        both(x, y, "sheet", 0, 2, 5);
        List<Method> face = face();
        for (int k = 0; k < 60; k++) {
            Method m = face.get(draw(face.size()));
            if (!m.getName().equals("thing") && !m.getName().equals("type") && !m.getName().equals("market")) {
                both(x, y, m.getName(), arguments(m.getName(), m.getParameterTypes()));
            }
            both(x, y, "moved", draw(2), 20, -1);
            both(x, y, "pulled", 0, 2, 0, 0);
            both(x, y, "best", 0);
            both(x, y, "evenest", 0, 1);
            both(x, y, "buying", 0);
        }
    }

    public static void main(String[] args) throws ReflectiveOperationException {
        for (int k = 0; k < 1500 && Check.wrong() <= 20; k++) {
            run(300, 2 + draw(4));
        }
        for (int k = 0; k < 600 && Check.wrong() <= 20; k++) {
            shoppingRun();
        }
        for (int k = 0; k < 200 && Check.wrong() <= 20; k++) {
            nosyRun();
        }
        for (int k = 0; k < 6 && Check.wrong() <= 20; k++) {
            fullRun(draw(10));
        }
        Check.end();
    }
}
