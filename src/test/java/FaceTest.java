import java.lang.reflect.Method;
import java.lang.reflect.Modifier;
import java.nio.file.Files;
import java.nio.file.Path;
import java.util.ArrayList;
import java.util.Arrays;
import java.util.List;
import java.util.Set;
import java.util.TreeSet;
import java.util.regex.Matcher;
import java.util.regex.Pattern;
import java.util.stream.Collectors;

/** The class has the document's face and no other, and its source keeps to what can be looked at. */
public final class FaceTest {
    private static final Check CHECK = new Check("FaceTest");
    private static final String FACE = "feed(int,int,int,int,int):int end(int):boolean cabinet():int law():int "
            + "fault():int jar(int,int):int advice(int,int,boolean):int light(int):int need(int,int):int "
            + "ask(int,int):int mix(int,int,int):int close(int):boolean label(int,int):int move(int,int):int "
            + "years(int):int mixture(int,int,int):int best(int,int):int coalition():int agree(int):int "
            + "cover(int):int plan():int unmet():int tastes(boolean):int next():int harm():int "
            + "arranged(int):int falls(int):int wins(int):boolean smallest(boolean):int dummies():int "
            + "war(int,int,int):int ahead(int,int,int):int spoils(int,int,int):int ripe(int,int,boolean):int "
            + "goes(int):int wrong(boolean):int whose(int):int ring(int):int asked(int):int led(int):int "
            + "trial(int,boolean):int span(int,boolean):int log(int,int):int seed(int):int undo():boolean "
            + "image():void back():boolean count(int):int";

    public static void main(String[] args) throws Exception {
        members();
        source(Files.readString(Path.of(args.length > 0 ? args[0] : "src/main/java/JarCabinet.java")));
        CHECK.end();
    }

    private static void members() {
        Set<String> want = new TreeSet<>(Arrays.asList(FACE.split(" ")));
        Set<String> names = new TreeSet<>();
        Set<String> got = new TreeSet<>();
        for (Method m : JarCabinet.class.getDeclaredMethods()) {
            if (!Modifier.isPrivate(m.getModifiers())) {
                String types = Arrays.stream(m.getParameterTypes()).map(Class::getName)
                        .collect(Collectors.joining(","));
                got.add(m.getName() + "(" + types + "):" + m.getReturnType().getName());
                names.add(m.getName());
            }
        }
        CHECK.due("the methods", want, () -> got);
        CHECK.due("a final class", true, () -> Modifier.isFinal(JarCabinet.class.getModifiers()));
        CHECK.due("one constructor", 1, () -> JarCabinet.class.getDeclaredConstructors().length);
        CHECK.due("one constant", "[NONE]", () -> Arrays.stream(JarCabinet.class.getDeclaredFields())
                .filter(f -> !Modifier.isPrivate(f.getModifiers())).map(f -> f.getName()).toList());
        List<String> twice = new ArrayList<>();
        List<Class<?>> all = new ArrayList<>(List.of(JarCabinet.class.getDeclaredClasses()));
        CHECK.due("some twelve classes", true, () -> all.size() < 12);
        all.add(JarCabinet.class);
        for (Class<?> c : all) {
            for (Method m : c.getDeclaredMethods()) {
                if (!Modifier.isPublic(m.getModifiers()) && names.contains(m.getName())) {
                    twice.add(c.getSimpleName() + "." + m.getName());
                }
            }
            long fields = Arrays.stream(c.getDeclaredFields())
                    .filter(f -> !Modifier.isStatic(f.getModifiers())).count();
            CHECK.due("some twenty fields in " + c.getSimpleName(), true, () -> fields <= 20);
        }
        CHECK.due("no other method with a name of the face", "[]", () -> twice);
    }

    private static void source(String source) {
        String code = source.replaceAll("(?s)/\\*.*?\\*/", "").replaceAll("//[^\n]*", "");
        CHECK.due("one import", 1L, () -> code.lines().filter(l -> l.startsWith("import ")).count());
        String[] barred = {"->", "::", "\\btry\\b", "\\bcatch\\b", "\\bfinally\\b", "\\bassert\\b",
            "\\bsynchronized\\b", "\\bpackage\\b", "Exact\\b", "\\bSystem\\.(?!arraycopy)", "\\bvar\\b",
            "\\binstanceof\\b", "\\bhashCode\\b", "\\btoString\\b", "static \\{"};
        for (String b : barred) {
            CHECK.due("has " + b, false, () -> Pattern.compile(b).matcher(code).find());
        }
        CHECK.due("signs 1 to 126 alone", true, () -> source.chars().allMatch(c -> c > 0 && c < 127));
        Matcher m = Pattern.compile("(?m)^( +)[^\\n=;]*\\) ?(throws [^{]*)?\\{\\n((?!\\1\\}).*\\n)*\\1\\}").matcher(code);
        while (m.find()) {
            long lines = m.group().lines().count();
            CHECK.due("some sixty lines: " + m.group().trim().lines().findFirst().get(), true, () -> lines <= 60);
        }
    }
}
