import java.lang.reflect.InvocationTargetException;
import java.lang.reflect.Method;
import java.util.Arrays;

/** A call of the face with its arguments, so that it can be made on several objects, and with one argument changed. */
final class Call {
    /** No call answers this. */
    static final int THROWN = -99999999;

    private final Method method;
    private final Object[] with;

    private Call(Method method, Object[] with) {
        this.method = method;
        this.with = with;
    }

    static Call of(String name, Object... with) {
        for (Method m : EvenBags.class.getDeclaredMethods()) {
            if (m.getName().equals(name) && m.getParameterCount() == with.length) {
                return new Call(m, with);
            }
        }
        throw new IllegalArgumentException("no call " + name);
    }

    Call but(int place, int v) {
        Object[] other = with.clone();
        other[place] = v;
        return new Call(method, other);
    }

    int on(EvenBags x) {
        Object[] all = with.clone();
        for (int k = 0; k < all.length; k++) {
            if (method.getParameterTypes()[k] == long.class) {
                all[k] = ((Number) all[k]).longValue();
            }
        }
        try {
            return (Integer) method.invoke(x, all);
        } catch (InvocationTargetException thrown) {
            System.out.println(this + " throws " + thrown.getCause());
            return THROWN;
        } catch (IllegalAccessException hidden) {
            throw new IllegalStateException(hidden);
        }
    }

    public String toString() {
        return method.getName() + Arrays.toString(with).replace('[', '(').replace(']', ')');
    }
}
