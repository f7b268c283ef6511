import java.lang.reflect.Constructor;
import java.lang.reflect.InvocationTargetException;
import java.lang.reflect.Method;
import java.util.Arrays;
import java.util.Comparator;

/** Runs the tests of single sentences, each on its own; with a test's name only that one. */
public final class EdgesTest {
    private static final Class<?>[] SUITES = {
        ConventionsEdges.class, TreeEdges.class, ChangesEdges.class, WhatThereIsEdges.class, QuestionsEdges.class,
        TextsEdges.class, UndoEdges.class};

    private int passed = 0;
    private int failed = 0;

    public static void main(String[] args) throws ReflectiveOperationException {
        EdgesTest tests = new EdgesTest();
        for (Class<?> suite : SUITES) {
            tests.runAll(suite, args.length == 0 ? "" : args[0]);
        }
        System.out.println(tests.passed + " passed, " + tests.failed + " failed");
        if (tests.failed != 0 || tests.passed == 0) {
            System.exit(1);
        }
    }

    private void runAll(Class<?> suite, String only) throws ReflectiveOperationException {
        Method[] methods = suite.getDeclaredMethods();
        Arrays.sort(methods, Comparator.comparing(Method::getName));
        for (Method method : methods) {
            if (method.isAnnotationPresent(Says.class) && (only.isEmpty() || only.equals(method.getName()))) {
                run(suite, method);
            }
        }
    }

    private void run(Class<?> suite, Method method) throws ReflectiveOperationException {
        Constructor<?> constructor = suite.getDeclaredConstructor();
        Edges edges = (Edges) constructor.newInstance();
        String name = suite.getName() + "." + method.getName();
        edges.begin(name + " [" + method.getAnnotation(Says.class).value() + "]");
        if (ended(edges, method) && edges.checks().made() != 0 && !edges.checks().anyWrong()) {
            passed++;
        } else {
            failed++;
            System.out.println(name + " failed");
        }
    }

    private static boolean ended(Edges edges, Method method) throws IllegalAccessException {
        try {
            method.invoke(edges);
            return true;
        } catch (InvocationTargetException thrown) {
            System.out.println(method.getName() + " threw " + thrown.getCause());
            return false;
        }
    }
}
