import java.lang.reflect.InvocationTargetException;
import java.lang.reflect.Method;
import java.util.Arrays;
import java.util.Comparator;
import java.util.List;
import java.util.Set;
import java.util.TreeSet;

/**
 * The boundary cases of all promises: runs each method of the Boundaries that is named by its promise's
 * number. A wrong answer is told with the method's name. A number as an argument runs that promise alone.
 */
public final class BoundariesTest {
  private static final int PROMISES = 51;
  private static final List<Class<?>> ALL = List.of(Boundaries01To03.class, Boundaries04To09.class,
      Boundaries10To19.class, Boundaries20To29.class, Boundaries30To39.class, Boundaries40To51.class);

  private BoundariesTest() {
  }

  public static void main(String[] args) throws IllegalAccessException, InvocationTargetException {
    String asked = args.length > 0 ? String.format("promise%02d_", Integer.parseInt(args[0])) : "promise";
    Set<Integer> promises = new TreeSet<>();
    for (Class<?> boundaries : ALL) {
      Method[] methods = boundaries.getDeclaredMethods();
      Arrays.sort(methods, Comparator.comparing(Method::getName));
      for (Method method : methods) {
        if (method.getName().matches("promise\\d\\d_\\w+")) {
          promises.add(Integer.parseInt(method.getName().substring(7, 9)));
          if (method.getName().startsWith(asked)) {
            Check.begin(method.getName());
            method.invoke(null);
          }
        }
      }
    }
    Check.begin("BoundariesTest");
    Check.due("promises that have boundary tests", promises.size(), PROMISES);
    Check.end("BoundariesTest");
  }
}
