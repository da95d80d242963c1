import java.lang.reflect.Constructor;
import java.lang.reflect.Field;
import java.lang.reflect.Method;
import java.lang.reflect.Modifier;
import java.util.ArrayList;
import java.util.Collections;
import java.util.List;
import java.util.Set;
import java.util.TreeSet;

/** The public face is the document's and no more, and what of ../shared/LANGUAGE.md the compiled class shows holds. */
public final class FaceTest {
  private static final String[] METHODS = {
    "int addHouse(int,int)", "int setHouse(int,int,int)", "int removeHouse(int)", "int buy(int,int)",
    "int lend(int,int,int)", "int remit(int)", "int net()", "int set(int,int)", "int setBattery(int,int,int)",
    "int run(int)", "int type(int)", "int clear()", "int fault()", "int load()", "int undo()", "int keep(int)",
    "int back(int)", "int house(int,int)", "int loan(int,int)", "int battery(int,int)", "int feeder(int,int)",
    "int account(int)", "int supply(int)", "int count(int)", "int setting(int)", "int ifRun(int,int)",
    "int darkIn(int)", "int tokenFor(int,int)", "double met()", "long digest()",
  };

  private static final Check check = new Check();

  public static void main(String[] args) throws IllegalAccessException {
    face();
    constants();
    language();
    check.end();
  }

  private static void face() {
    Class<?> face = MeterPool.class;
    check.holds("the class is public and final", face.getModifiers() == (Modifier.PUBLIC | Modifier.FINAL));
    List<String> told = new ArrayList<>();
    for (Method method : face.getDeclaredMethods()) {
      if (!Modifier.isPrivate(method.getModifiers())) {
        check.holds(method.getName() + " is public alone", method.getModifiers() == Modifier.PUBLIC);
        told.add(signature(method));
      }
    }
    Collections.sort(told);
    List<String> wanted = new ArrayList<>(List.of(METHODS));
    Collections.sort(wanted);
    check.holds("the methods are the document's: " + told, told.equals(wanted));
    Constructor<?>[] constructors = face.getDeclaredConstructors();
    check.due("constructors", constructors.length, 1);
    check.due("its parameters", constructors[0].getParameterCount(), 0);
    check.holds("it is public", Modifier.isPublic(constructors[0].getModifiers()));
  }

  private static String signature(Method method) {
    StringBuilder text = new StringBuilder();
    text.append(method.getReturnType().getName()).append(' ').append(method.getName()).append('(');
    Class<?>[] types = method.getParameterTypes();
    for (int i = 0; i < types.length; i++) {
      text.append(i == 0 ? "" : ",").append(types[i].getName());
    }
    return text.append(')').toString();
  }

  private static void constants() throws IllegalAccessException {
    int told = 0;
    for (Field field : MeterPool.class.getDeclaredFields()) {
      if (!Modifier.isPrivate(field.getModifiers())) {
        told++;
        check.holds(field.getName() + " is a constant int", field.getType() == int.class
            && field.getModifiers() == (Modifier.PUBLIC | Modifier.STATIC | Modifier.FINAL));
        int at = List.of("NONE", "BAD", "STATE", "FULL").indexOf(field.getName());
        check.due(field.getName(), field.getInt(null), -1000001 - at);
      }
    }
    check.due("constants", told, 4);
  }

  private static void language() {
    Set<String> open = new TreeSet<>();
    for (Method method : MeterPool.class.getDeclaredMethods()) {
      if (Modifier.isPublic(method.getModifiers())) {
        open.add(method.getName());
      }
    }
    Class<?>[] inside = MeterPool.class.getDeclaredClasses();
    check.holds("rule 11, classes", inside.length + 1 <= 14);
    ofClass(MeterPool.class, open);
    for (Class<?> nested : inside) {
      int open1 = nested.getModifiers() & (Modifier.PUBLIC | Modifier.PROTECTED);
      check.holds("rule 1, " + nested.getName(), open1 == 0 && Modifier.isStatic(nested.getModifiers()));
      ofClass(nested, open);
    }
  }

  private static void ofClass(Class<?> type, Set<String> open) {
    int fields = 0;
    for (Field field : type.getDeclaredFields()) {
      boolean fixed = Modifier.isStatic(field.getModifiers());
      check.holds("rule 5, " + field, !fixed || Modifier.isFinal(field.getModifiers()));
      fields += fixed ? 0 : 1;
    }
    check.holds("rule 11, fields of " + type.getName(), fields <= 24);
    for (Method method : type.getDeclaredMethods()) {
      check.holds("rule 11, parameters of " + method, method.getParameterCount() <= 7);
      check.holds("rule 1, name of " + method, type == MeterPool.class && Modifier.isPublic(method.getModifiers())
          || !open.contains(method.getName()));
    }
  }
}
