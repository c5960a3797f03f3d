import java.lang.reflect.Constructor;
import java.lang.reflect.Field;
import java.lang.reflect.Method;
import java.lang.reflect.Modifier;
import java.util.ArrayList;
import java.util.List;

/** The public face: the members of the document, and no others. */
final class FaceTest {
  private static final String[] CONSTANTS = {
    "BAD_INDEX -101", "BAD_VALUE -102", "NOT_POSSIBLE -103", "FULL -104", "NONE -105", "BY_AGE 0", "BY_TURNS 1",
    "IN_PROPORTION 2", "UNFOUNDED 0", "FUTILE 1", "UPHELD 2"
  };
  private static final String[] METHODS = {
    "addDitch 3", "setDitch 3", "addUser 3", "setField 4", "setPond 3", "setTurn 2", "setSupply 3", "setRule 1",
    "setFutile 1", "ditches 0", "users 0", "userByAge 1", "time 0", "asks 1", "gets 1", "inflow 1", "loses 1",
    "turn 0", "limit 1", "leastSupply 1", "usefulGate 1", "advance 1", "account 1", "pond 1", "missed 1",
    "willMiss 2", "hoursToFull 1", "gain 2", "complaint 2", "settle 0", "isShut 1", "append 1", "clearText 0",
    "faultPosition 0", "read 0", "save 1", "restore 1", "checksum 0"
  };

  private FaceTest() {
  }

  public static void main(String[] args) throws IllegalAccessException {
    Class<?> face = IrrigationDistrict.class;
    Check.due("public and final", face.getModifiers(), Modifier.PUBLIC | Modifier.FINAL);
    constants(face);
    constructor(face);
    methods(face);
    classesInside(face);
    Check.finish();
  }

  private static void constants(Class<?> face) throws IllegalAccessException {
    List<String> seen = new ArrayList<>();
    for (Field field : face.getDeclaredFields()) {
      if (Modifier.isPrivate(field.getModifiers())) continue;
      Check.due(field.getName(), field.getModifiers(), Modifier.PUBLIC | Modifier.STATIC | Modifier.FINAL);
      Check.holds(field.getName() + " is an int", field.getType() == int.class);
      seen.add(field.getName() + " " + field.getInt(null));
    }
    sameNames("constants", seen, CONSTANTS);
  }

  private static void constructor(Class<?> face) {
    Constructor<?>[] all = face.getDeclaredConstructors();
    Check.due("constructors", all.length, 1);
    Check.due("parameters of the constructor", all[0].getParameterCount(), 0);
    Check.due("the constructor is public", all[0].getModifiers(), Modifier.PUBLIC);
  }

  private static void methods(Class<?> face) {
    List<String> seen = new ArrayList<>();
    for (Method method : face.getDeclaredMethods()) {
      if (Modifier.isPrivate(method.getModifiers())) {
        Check.holds("private " + method.getName() + " has a name of its own", !isOfFace(method.getName()));
        continue;
      }
      Check.due(method.getName(), method.getModifiers(), Modifier.PUBLIC);
      boolean isLong = method.getName().equals("checksum");
      Check.holds(method.getName() + " returns its type", method.getReturnType() == (isLong ? long.class : int.class));
      for (Class<?> type : method.getParameterTypes()) {
        Check.holds(method.getName() + " takes ints", type == int.class);
      }
      seen.add(method.getName() + " " + method.getParameterCount());
    }
    sameNames("methods", seen, METHODS);
  }

  private static boolean isOfFace(String name) {
    for (String method : METHODS) {
      if (method.startsWith(name + " ")) return true;
    }
    return false;
  }

  private static void classesInside(Class<?> face) {
    Check.due("classes that are seen from outside", face.getClasses().length, 0);
    for (Class<?> inside : face.getDeclaredClasses()) {
      Check.holds(inside.getName() + " is static", Modifier.isStatic(inside.getModifiers()));
      for (Method method : inside.getDeclaredMethods()) {
        Check.holds(inside.getName() + "." + method.getName() + " is no name of the face", !isOfFace(method.getName()));
      }
    }
  }

  private static void sameNames(String what, List<String> seen, String[] due) {
    Check.due("number of " + what, seen.size(), due.length);
    for (String name : due) {
      Check.holds(name, seen.contains(name));
    }
  }
}
