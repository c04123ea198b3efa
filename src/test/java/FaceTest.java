import java.lang.reflect.Constructor;
import java.lang.reflect.Field;
import java.lang.reflect.Method;
import java.lang.reflect.Modifier;
import java.util.ArrayList;
import java.util.Arrays;
import java.util.Collections;
import java.util.List;

/** The class has the document's public face, and nothing else that another class can see. */
public final class FaceTest {
  private static final String[] METHODS = {
    "boolean later(int,int) IndexOutOfBoundsException",
    "double mean()",
    "int above(int,int) IndexOutOfBoundsException IllegalStateException",
    "int between(int,int) IndexOutOfBoundsException",
    "int blame()",
    "int clear(int) IndexOutOfBoundsException IllegalStateException",
    "int count(int) IndexOutOfBoundsException",
    "int find() IllegalStateException",
    "int finds(int,int) IndexOutOfBoundsException",
    "int hearth(int,int,int) IndexOutOfBoundsException IllegalArgumentException",
    "int narrows(int,int) IndexOutOfBoundsException IllegalArgumentException",
    "int order(int) IndexOutOfBoundsException",
    "int same(int,int) IndexOutOfBoundsException IllegalStateException",
    "int sift(int,int,int) IndexOutOfBoundsException IllegalArgumentException",
    "int tells(int,int) IndexOutOfBoundsException",
    "int told(int,int) IndexOutOfBoundsException",
    "long digest()",
  };

  public static void main(String[] args) {
    Class<?> face = CairnShells.class;
    int modifiers = face.getModifiers();
    Due.is("public", true, () -> Modifier.isPublic(modifiers));
    Due.is("final", true, () -> Modifier.isFinal(modifiers));
    Due.is("methods", Arrays.asList(METHODS), () -> visibleMethods(face));
    Due.is("constructors", List.of("public CairnShells()"), () -> constructors(face));
    Due.is("visible fields", List.of(), () -> visibleFields(face));
    Due.is("methods named like public ones", List.of(), () -> namesakes(face));
    Due.end("FaceTest");
  }

  private static List<String> visibleMethods(Class<?> face) {
    List<String> found = new ArrayList<>();
    for (Method method : face.getDeclaredMethods()) {
      if (!Modifier.isPrivate(method.getModifiers()) && !method.isSynthetic()) {
        found.add(told(method));
      }
    }
    Collections.sort(found);
    return found;
  }

  private static String told(Method method) {
    StringBuilder text = new StringBuilder();
    if (!Modifier.isPublic(method.getModifiers())) {
      text.append("not public: ");
    }
    text.append(method.getReturnType()).append(' ').append(method.getName()).append('(');
    String comma = "";
    for (Class<?> parameter : method.getParameterTypes()) {
      text.append(comma).append(parameter);
      comma = ",";
    }
    text.append(')');
    for (Class<?> exception : method.getExceptionTypes()) {
      text.append(' ').append(exception.getSimpleName());
    }
    return text.toString();
  }

  private static List<String> constructors(Class<?> face) {
    List<String> found = new ArrayList<>();
    for (Constructor<?> constructor : face.getDeclaredConstructors()) {
      found.add(constructor.toString());
    }
    return found;
  }

  private static List<String> visibleFields(Class<?> face) {
    List<String> found = new ArrayList<>();
    for (Field field : face.getDeclaredFields()) {
      if (!Modifier.isPrivate(field.getModifiers()) && !field.isSynthetic()) {
        found.add(field.getName());
      }
    }
    return found;
  }

  private static List<String> namesakes(Class<?> face) {
    List<String> open = new ArrayList<>();
    for (Method method : face.getMethods()) {
      if (method.getDeclaringClass() == face) {
        open.add(method.getName());
      }
    }
    List<String> found = new ArrayList<>();
    for (Method method : face.getDeclaredMethods()) {
      if (!Modifier.isPublic(method.getModifiers()) && open.contains(method.getName())) {
        found.add(method.getName());
      }
    }
    return found;
  }
}
