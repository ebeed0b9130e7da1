import java.lang.reflect.Constructor;
import java.lang.reflect.Field;
import java.lang.reflect.Method;
import java.lang.reflect.Modifier;
import java.nio.file.Files;
import java.nio.file.Path;
import java.util.ArrayList;
import java.util.List;
import java.util.Set;
import java.util.TreeSet;
import java.util.regex.Matcher;
import java.util.regex.Pattern;

/** The public face of the document and no other, and those rules of LANGUAGE.md that can be seen from outside. */
public final class FaceTest {
    private static final String[] FACE = {
        "int seat(int)", "int person(int,int,int,int)", "int birth(int,int)", "int wed(int,int,int)", "int death(int,int)",
        "int member(int,int,int,int)", "int rate(int,int,int)", "int gone(int,boolean,int)", "int pay(int,int,int)",
        "int strike(int)", "int known(int,int)", "int as(int,int,int)", "int live(int,int,int,int)", "int part(int,int,int,int)",
        "int feed(long,int)", "int text(int)", "int force(int,int)", "int out(int,int,int)", "int rule(int,int,int,int)",
        "int why(int,int,int,int)", "int quarrel(int,int,int,int)", "long owe(int,int,int,int)", "long vacant(int,int)",
        "long rent(int,int,int)", "long widow(int,int,int)", "long sum(int,int,int)", "int begin(int)", "long chest(int,int)",
        "int loan(int,int,int,int)", "int bad(int,int)", "long due(int,int)", "int table(int,int)", "int own(int,int,int,int)",
        "int alive(int,int)", "int expect(int)", "int interest(int)", "long worth(int,int)", "long value(int,int)", "int row()",
        "int rows(int,int,int)", "int shortBy(int,int,int)", "int step(int,int)", "int plan(int,int,int)", "long tried(int,int)",
        "long told(int,int,long)", "int check(int,int)", "int judge(int,int)", "int count(int)"};

    public static void main(String[] args) throws Exception {
        face();
        insides();
        if (args.length > 0) source(Files.readString(Path.of(args[0])));
        Check.end("FaceTest");
    }

    private static void is(String what, boolean so) {
        Check.due(what, so ? 1 : 0, 1);
    }

    private static String signature(Method method) {
        StringBuilder text = new StringBuilder(method.getReturnType().getName()).append(' ').append(method.getName()).append('(');
        for (Class<?> type : method.getParameterTypes()) {
            if (text.charAt(text.length() - 1) != '(') text.append(',');
            text.append(type.getName());
        }
        return text.append(')').toString();
    }

    private static void face() {
        Set<String> due = new TreeSet<>(List.of(FACE));
        for (Method method : WidowsFund.class.getDeclaredMethods()) {
            if (Modifier.isPrivate(method.getModifiers())) continue;
            is("public " + method, Modifier.isPublic(method.getModifiers()) && !Modifier.isStatic(method.getModifiers()));
            is("in the face: " + signature(method), due.remove(signature(method)));
        }
        is("missing: " + due, due.isEmpty());
        Constructor<?>[] constructors = WidowsFund.class.getDeclaredConstructors();
        is("one public constructor", constructors.length == 1 && Modifier.isPublic(constructors[0].getModifiers())
                && constructors[0].getParameterCount() == 0);
        Set<String> constants = new TreeSet<>(List.of("NONE", "BAD", "STATE", "FULL", "NO"));
        for (Field field : WidowsFund.class.getDeclaredFields()) {
            if (!Modifier.isPrivate(field.getModifiers())) is("constant " + field, constants.remove(field.getName()));
        }
        is("missing: " + constants, constants.isEmpty());
        is("final", Modifier.isFinal(WidowsFund.class.getModifiers()));
    }

    private static void insides() {
        Set<String> names = new TreeSet<>();
        for (String signature : FACE) names.add(signature.substring(signature.indexOf(' ') + 1, signature.indexOf('(')));
        List<Class<?>> classes = new ArrayList<>(List.of(WidowsFund.class.getDeclaredClasses()));
        is("at most twelve classes", classes.size() < 12);
        for (Class<?> inside : classes) {
            is("static " + inside, Modifier.isStatic(inside.getModifiers()));
            is("not public " + inside, !Modifier.isPublic(inside.getModifiers()) && !Modifier.isProtected(inside.getModifiers()));
            for (Method method : inside.getDeclaredMethods()) is("another name than " + method, !names.contains(method.getName()));
        }
        classes.add(WidowsFund.class);
        for (Class<?> one : classes) {
            int fields = 0;
            for (Field field : one.getDeclaredFields()) {
                boolean isStatic = Modifier.isStatic(field.getModifiers());
                if (isStatic) is("final " + field, Modifier.isFinal(field.getModifiers()));
                else fields++;
            }
            is("at most twenty fields in " + one, fields <= 20);
            for (Method method : one.getDeclaredMethods()) is("seven parameters " + method, method.getParameterCount() <= 7);
        }
    }

    private static void source(String text) {
        String code = text.replaceAll("(?s)/\\*.*?\\*/", "").replaceAll("//[^\n]*", "").replaceAll("\"[^\"\n]*\"", "\"\"");
        String[] words = {"throw", "throws", "try", "catch", "finally", "synchronized", "assert", "Object", "System", "Thread",
            "instanceof", "volatile", "transient", "native", "package", "Exception", "hashCode", "toString", "equals", "double",
            "float", "var", "goto", "random", "Random"};
        for (String word : words) is("no " + word, !Pattern.compile("\\b" + word + "\\b").matcher(code).find());
        is("no lambda", !code.contains("->"));
        is("no method reference", !code.contains("::"));
        is("no exact functions", !code.contains("Exact("));
        is("no endless while", !code.contains("while ("));
        Matcher imports = Pattern.compile("import ([^;]+);").matcher(code);
        while (imports.find()) is("import " + imports.group(1), imports.group(1).equals("java.util.Arrays"));
        Matcher calls = Pattern.compile("\\b(Math|Arrays|Integer|Long)\\.(\\w+)").matcher(code);
        Set<String> library = Set.of("Math.max", "Math.min", "Arrays.fill", "Integer.bitCount", "Long.MIN_VALUE");
        while (calls.find()) is("library " + calls.group(), library.contains(calls.group()));
        for (int i = 0; i < text.length(); i++) if (text.charAt(i) > 126) is("plain signs at " + i, false);
        is("no tabs", text.indexOf('\t') < 0);
        methodLengths(text);
    }

    private static void methodLengths(String text) {
        String[] lines = text.split("\n");
        int start = -1;
        String indent = "";
        for (int i = 0; i < lines.length; i++) {
            Matcher head = Pattern.compile("^( {4}| {8})(?:\\w[\\w\\[\\]]* )+\\w+\\(.*\\{$").matcher(lines[i]);
            if (head.find() && !lines[i].contains(" new ")) {
                start = i;
                indent = head.group(1);
            } else if (start >= 0 && lines[i].equals(indent + "}")) {
                is("short method: " + lines[start].trim(), i - start < 60);
                start = -1;
            }
        }
    }
}
