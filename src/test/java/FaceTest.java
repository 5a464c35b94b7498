import java.lang.reflect.Constructor;
import java.lang.reflect.Field;
import java.lang.reflect.Method;
import java.lang.reflect.Modifier;
import java.util.ArrayList;
import java.util.Arrays;
import java.util.List;
import java.util.Set;
import java.util.TreeSet;

/** The class shows the face that ../shared/DOC.md tells, and nothing else of its own (LANGUAGE.md, rule 1). */
public final class FaceTest {
  private static final String[] FACE = {
    "public int street(int)", "public int build(int,int)", "public int burn(int)", "public int enact(int)",
    "public int house(int,int)", "public int have(int)", "public int would(int,int)", "public int where(int,int)",
    "public int letter(int)", "public int gaps()", "public int walk(int,int)", "public int search(int,int)",
    "public int rise()", "public int falls()", "public int byLaw(int,int,int)", "public int laws(int)",
    "public int orders(int)", "public int joined(int,int)", "public int seeded(int,int,int)", "public int judge(int)",
    "public int image()", "public int restore()", "public int count(int)", "public int keep(int,int,int,int)",
    "public int row(int,int,int)", "public int put(int,int,int)",
    "public long element(int,int) throws IllegalArgumentException,IllegalStateException",
    "public int copy(int,int,int,int,int)", "public int tax(int)", "public int toss(int)"
  };

  public static void main(String[] args) {
    List<String> faults = new ArrayList<>();
    int modifiers = NumberedByAge.class.getModifiers();
    if (!Modifier.isPublic(modifiers) || !Modifier.isFinal(modifiers)) {
      faults.add("the class is not public and final");
    }
    Set<String> names = new TreeSet<>();
    Set<String> shown = new TreeSet<>();
    for (Method method : NumberedByAge.class.getDeclaredMethods()) {
      if (!Modifier.isPrivate(method.getModifiers())) {
        names.add(method.getName());
        shown.add(written(method));
      }
    }
    Set<String> wanted = new TreeSet<>(Arrays.asList(FACE));
    if (!shown.equals(wanted)) {
      faults.add("the face is " + shown + ", not " + wanted);
    }
    for (Method method : NumberedByAge.class.getDeclaredMethods()) {
      if (Modifier.isPrivate(method.getModifiers()) && names.contains(method.getName())) {
        faults.add("a private method bears a public one's name: " + method);
      }
    }
    for (Field field : NumberedByAge.class.getDeclaredFields()) {
      if (!Modifier.isPrivate(field.getModifiers())) {
        faults.add("a field is shown: " + field);
      }
    }
    Constructor<?>[] constructors = NumberedByAge.class.getDeclaredConstructors();
    if (constructors.length != 1 || !constructors[0].toString().equals("public NumberedByAge()")) {
      faults.add("the constructors are " + Arrays.toString(constructors));
    }
    faults.forEach(System.out::println);
    System.out.println(faults.isEmpty() ? "the face is as told" : "the face is not as told");
    if (!faults.isEmpty()) {
      System.exit(1);
    }
  }

  private static String written(Method method) {
    return method.toString().replace("NumberedByAge.", "").replace("java.lang.", "");
  }
}
