import java.io.IOException;
import java.lang.reflect.Constructor;
import java.lang.reflect.Field;
import java.lang.reflect.Method;
import java.lang.reflect.Modifier;
import java.nio.charset.StandardCharsets;
import java.nio.file.Files;
import java.nio.file.Path;
import java.util.ArrayList;
import java.util.Collections;
import java.util.List;
import java.util.regex.Matcher;
import java.util.regex.Pattern;

/** The document's face, and those rules of LANGUAGE.md that a look at the class and at its source can tell. */
public final class FaceTest {
  private static final String[] METHODS = {
    "int wheel(int,long)", "int turn(int,long)", "long wheelOf(int,int)", "int register(int)", "int load(int,int,long)",
    "long read(int,int)", "int move(int,int)", "int take(int,int)", "int work(int,int,int,int)", "int strip(int,int)",
    "int tear(int)", "int keep(int,int,int,int)", "long kept(int,int,int)", "int rests(int,int)", "int pointer(int,int)",
    "int stand(int,int)", "int set(int,int,int)", "int hang(int,int,int)", "long show(int,int)", "long all(int)",
    "int count(int)", "int often(int)", "int refused()"};
  private static final String[] CONSTANTS = {
    "NONE=-1", "BAD=-2", "FULL=-3", "SPUN=-4", "VOID=-5", "ZERO=-6", "CAST=-7", "INDEX=-8", "STORE=-9", "NULL=-10"};
  private static int wrong = 0;

  public static void main(String[] args) throws IOException, IllegalAccessException {
    Class<?> face = OrreryWorks.class;
    need(Modifier.isPublic(face.getModifiers()) && Modifier.isFinal(face.getModifiers()), "the class is public and final");
    checkConstructors(face);
    checkMethods(face);
    checkFields(face);
    checkNested(face);
    checkSource(Files.readString(Path.of("src/main/java/OrreryWorks.java"), StandardCharsets.UTF_8));
    System.out.println(wrong == 0 ? "the face is as told" : wrong + " things are not as told");
    if (wrong != 0) System.exit(1);
  }

  private static void need(boolean right, String what) {
    if (right) return;
    wrong++;
    System.out.println("not so: " + what);
  }

  private static void same(List<String> got, String[] want, String what) {
    List<String> due = new ArrayList<>(List.of(want));
    Collections.sort(due);
    Collections.sort(got);
    need(got.equals(due), what + " are " + due + ", not " + got);
  }

  private static void checkConstructors(Class<?> face) {
    Constructor<?>[] made = face.getDeclaredConstructors();
    need(made.length == 1 && made[0].getParameterCount() == 0 && Modifier.isPublic(made[0].getModifiers()),
        "there is one constructor, public, of nothing");
  }

  private static void checkMethods(Class<?> face) {
    List<String> open = new ArrayList<>();
    List<String> names = new ArrayList<>();
    for (Method method : face.getDeclaredMethods()) {
      if (Modifier.isPrivate(method.getModifiers())) continue;
      open.add(signature(method));
      names.add(method.getName());
    }
    same(open, METHODS, "the methods of the face");
    checkHiddenNames(face, names);
    for (Class<?> nested : face.getDeclaredClasses()) checkHiddenNames(nested, names);
  }

  private static String signature(Method method) {
    StringBuilder text = new StringBuilder();
    for (Class<?> parameter : method.getParameterTypes()) {
      if (text.length() > 0) text.append(',');
      text.append(parameter.getSimpleName());
    }
    boolean plain = Modifier.isPublic(method.getModifiers()) && !Modifier.isStatic(method.getModifiers());
    return (plain ? "" : "not public: ") + method.getReturnType().getSimpleName() + " " + method.getName() + "(" + text + ")";
  }

  private static void checkHiddenNames(Class<?> type, List<String> names) {
    for (Method method : type.getDeclaredMethods()) {
      boolean hidden = Modifier.isPrivate(method.getModifiers());
      need(!hidden || !names.contains(method.getName()), "no private method is named " + method.getName());
      need(method.getParameterCount() <= 7, method.getName() + " takes at most seven parameters");
    }
  }

  private static void checkFields(Class<?> face) throws IllegalAccessException {
    List<String> open = new ArrayList<>();
    for (Field field : face.getDeclaredFields()) {
      int modifiers = field.getModifiers();
      if (Modifier.isStatic(modifiers)) checkConstant(field);
      if (!Modifier.isPrivate(modifiers)) open.add(field.getName() + "=" + field.getInt(null));
    }
    same(open, CONSTANTS, "the constants of the face");
  }

  private static void checkConstant(Field field) {
    Class<?> type = field.getType().isArray() ? field.getType().getComponentType() : field.getType();
    need(Modifier.isFinal(field.getModifiers()), field.getName() + " is final");
    need(type != double.class && type != float.class && (type.isPrimitive() || type == String.class || type.isEnum()),
        field.getName() + " is of a type that constants have");
  }

  private static void checkNested(Class<?> face) {
    Class<?>[] nested = face.getDeclaredClasses();
    need(nested.length <= 11, "there are at most twelve classes");
    for (Class<?> type : nested) {
      int modifiers = type.getModifiers();
      need(Modifier.isStatic(modifiers), type.getName() + " is static");
      need(!Modifier.isPublic(modifiers) && !Modifier.isProtected(modifiers), type.getName() + " is hidden");
      for (Field field : type.getDeclaredFields()) {
        if (Modifier.isStatic(field.getModifiers())) checkConstant(field);
      }
    }
  }

  /** Comments hold no code: what they name is free. */
  private static void checkSource(String source) {
    String code = source.replaceAll("(?s)/\\*.*?\\*/", "").replaceAll("//[^\n]*", "");
    String[] strange = {"package", "finally", "synchronized", "assert", "Object", "Double", "Float", "NaN", "::", "Random",
      "Thread", "\\w+Exact", "System\\.(?!arraycopy)", "getMessage", "hashCode"};
    for (String word : strange) {
      Matcher found = Pattern.compile(Character.isLetter(word.charAt(0)) ? "\\b" + word : word).matcher(code);
      need(!found.find(), "the source does without '" + word + "'");
    }
    Matcher brought = Pattern.compile("\\bimport\\s+([\\w.*]+)").matcher(code);
    while (brought.find()) need(brought.group(1).startsWith("java.util."), "the source does without " + brought.group());
    Matcher caught = Pattern.compile("\\bcatch\\s*\\(([^)]*)\\)").matcher(code);
    Pattern machines = Pattern.compile("ArrayIndex|NullPointer|ClassCast|NegativeArray|ArrayStore|Throwable|\\bException\\b|Error");
    while (caught.find()) need(!machines.matcher(caught.group(1)).find(), "the source does without " + caught.group());
    need(code.chars().allMatch(sign -> sign < 128), "the source is of plain signs");
  }
}
