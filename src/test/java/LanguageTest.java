import java.io.IOException;
import java.io.PrintWriter;
import java.io.StringWriter;
import java.lang.reflect.Executable;
import java.lang.reflect.Field;
import java.lang.reflect.Modifier;
import java.nio.file.Files;
import java.nio.file.Path;
import java.util.ArrayList;
import java.util.Arrays;
import java.util.HashMap;
import java.util.LinkedHashMap;
import java.util.LinkedHashSet;
import java.util.List;
import java.util.Map;
import java.util.Set;
import java.util.regex.Matcher;
import java.util.regex.Pattern;
import java.util.spi.ToolProvider;

/** The rules of ../shared/LANGUAGE.md that can be counted on the compiled class, which javap tells. */
public final class LanguageTest {
    private static final int MOST_PARAMETERS = 7;
    private static final int MOST_FIELDS = 20;
    private static final int MOST_CLASSES = 12;
    private static final int DEEPEST_CALLS = 8;
    /** The document tells no recursion, so the class needs none. */
    private static final int RECURSION = 1000;

    /** Of the library of rule 4 what a class of numbers and arrays may need. */
    private static final Pattern LIBRARY = Pattern.compile("java/lang/Object\\.<init>"
        + "|java/lang/(Integer|Long|Math)\\.(bitCount|compare|max|min|abs|floorDiv|floorMod)"
        + "|java/lang/System\\.arraycopy|java/util/Arrays\\.(copyOf|copyOfRange|fill)");
    private static final Set<String> EXCEPTIONS = Set.of("java/lang/IllegalStateException",
        "java/lang/IllegalArgumentException", "java/lang/IndexOutOfBoundsException", "java/lang/ArithmeticException",
        "java/lang/UnsupportedOperationException", "java/util/NoSuchElementException");
    private static final Set<Class<?>> STATIC_TYPES = Set.of(int.class, int[].class);

    private static final Pattern METHOD = Pattern.compile("  (?! )(?:.* )?([\\w$]+)\\(.*\\).*;|  static \\{\\};");
    private static final Pattern CALL = Pattern.compile(".*invoke\\w+ .*// (?:Interface)?Method (\\S+):.*");
    private static final Pattern MADE = Pattern.compile(".*: (new|newarray|anewarray|multianewarray) .*?(\\S+)");

    /** The methods that each method calls; a method is told as Class.name. */
    private final Map<String, Set<String>> calls = new LinkedHashMap<>();
    private final Map<String, Integer> depths = new HashMap<>();

    public static void main(String[] args) throws IOException {
        LanguageTest test = new LanguageTest();
        List<Class<?>> classes = new ArrayList<>(Arrays.asList(ScaffoldPlanner.class.getDeclaredClasses()));
        classes.add(ScaffoldPlanner.class);
        Script.due("classes", classes.size() <= MOST_CLASSES, true);
        for (Class<?> one : classes) {
            checkMembers(one);
            test.readCode(one);
        }
        for (String method : test.calls.keySet()) {
            Script.due(method + " goes too deep", test.depthOf(method) > DEEPEST_CALLS, false);
        }
        Script.due("methods are found", test.calls.containsKey("ScaffoldPlanner.perform"), true);
        checkSource();
        Script.finish();
    }

    private static void checkMembers(Class<?> one) {
        boolean isFace = one == ScaffoldPlanner.class;
        boolean isHidden = Modifier.isStatic(one.getModifiers()) && !Modifier.isPublic(one.getModifiers());
        Script.due(one + " is a class inside", isFace || isHidden, true);
        int fields = 0;
        for (Field field : one.getDeclaredFields()) {
            if (!Modifier.isStatic(field.getModifiers())) fields++;
            else Script.due(field.toString(), isConstant(field), true);
        }
        Script.due(one + " has few fields", fields <= MOST_FIELDS, true);
        List<Executable> methods = new ArrayList<>(Arrays.asList(one.getDeclaredMethods()));
        methods.addAll(Arrays.asList(one.getDeclaredConstructors()));
        for (Executable method : methods) {
            Script.due(method + " has few parameters", method.getParameterCount() <= MOST_PARAMETERS, true);
        }
    }

    private static boolean isConstant(Field field) {
        return Modifier.isFinal(field.getModifiers()) && STATIC_TYPES.contains(field.getType());
    }

    private void readCode(Class<?> one) {
        String method = "";
        for (String line : codeOf(one).split("\n")) {
            Matcher named = METHOD.matcher(line);
            Matcher called = CALL.matcher(line);
            Matcher made = MADE.matcher(line);
            if (named.matches()) {
                method = one.getName() + "." + nameOf(one, named.group(1));
                calls.putIfAbsent(method, new LinkedHashSet<>());
            } else if (called.matches()) {
                addCall(method, one, called.group(1).replace("\"", ""));
            } else if (made.matches()) {
                Script.due(method + " makes " + made.group(2), isMadeRightly(method, made.group(2)), true);
            }
            Script.due(method + ": " + line, line.contains("invokedynamic") || line.contains("Exception table"), false);
        }
    }

    /** Constructors and the constants' initialiser, which javap tells without a name, make what stays. */
    private static String nameOf(Class<?> one, String told) {
        return told == null || told.equals(one.getName()) ? "<init>" : told;
    }

    private static String codeOf(Class<?> one) {
        StringWriter told = new StringWriter();
        ToolProvider javap = ToolProvider.findFirst("javap").orElseThrow();
        String path = System.getProperty("java.class.path");
        javap.run(new PrintWriter(told), new PrintWriter(System.err), "-c", "-p", "-classpath", path, one.getName());
        return told.toString();
    }

    /** What is made outside the constructors would count with every call: exceptions alone are. */
    private static boolean isMadeRightly(String method, String what) {
        return EXCEPTIONS.contains(what) != method.endsWith(".<init>");
    }

    private void addCall(String method, Class<?> one, String called) {
        String target = called.contains(".") ? called : one.getName() + "." + called;
        if (!target.startsWith("java/")) {
            calls.get(method).add(target);
            return;
        }
        boolean isException = target.endsWith(".<init>") && EXCEPTIONS.contains(target.replace(".<init>", ""));
        Script.due(method + " calls " + target, isException || LIBRARY.matcher(target).matches(), true);
    }

    /** How many calls are open at once from a method on, itself among them. */
    private int depthOf(String method) {
        Integer known = depths.get(method);
        if (known != null) return known;
        depths.put(method, RECURSION);
        int deepest = 0;
        for (String called : calls.getOrDefault(method, Set.of())) deepest = Math.max(deepest, depthOf(called));
        depths.put(method, deepest + 1);
        return deepest + 1;
    }

    /** What the compiled class does not show. */
    private static void checkSource() throws IOException {
        String source = Files.readString(Path.of("src/main/java/ScaffoldPlanner.java"));
        Script.due("signs of the source", source.chars().allMatch(sign -> sign < 128), true);
        Matcher imported = Pattern.compile("(?m)^import (.*);").matcher(source);
        while (imported.find()) Script.due("import", imported.group(1), "java.util.NoSuchElementException");
        String code = source.replaceAll("(?s)/\\*.*?\\*/|//[^\n]*", "");
        Matcher ruledOut = Pattern.compile("\\b(try|catch|finally|synchronized|assert|package|protected|instanceof)\\b|->|::")
            .matcher(code);
        while (ruledOut.find()) Script.due("the source", ruledOut.group(), "the part of Java that the class uses");
    }
}
