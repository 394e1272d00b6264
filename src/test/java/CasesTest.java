import java.io.IOException;
import java.lang.reflect.InvocationTargetException;
import java.lang.reflect.Method;
import java.lang.reflect.Modifier;
import java.nio.file.Files;
import java.nio.file.Path;
import java.util.Arrays;
import java.util.Comparator;
import java.util.Set;
import java.util.TreeSet;

/** Runs every case, each on a new ledger, and holds the words that they name against the document. */
public final class CasesTest {
    private static final Path DOCUMENT = Path.of("../shared/DOC.md");
    private static final int PROMISES = 14;

    private final Due due = new Due();
    private final Set<Integer> promisesSeen = new TreeSet<>();
    private final String document;
    private int cases = 0;

    private CasesTest(String document) {
        this.document = document;
    }

    public static void main(String[] args) throws IOException {
        CasesTest test = new CasesTest(Files.exists(DOCUMENT) ? Files.readString(DOCUMENT) : null);
        test.runAll(AccountCases.class);
        test.runAll(BatchCases.class);
        test.runAll(RowCases.class);
        test.runAll(PostCases.class);
        test.runAll(LimitCases.class);
        test.runAll(DayCases.class);
        test.runAll(ReverseCases.class);
        test.runAll(StockCases.class);
        test.runAll(CountCases.class);
        test.end();
    }

    private void runAll(Class<? extends LedgerCases> type) {
        Method[] methods = type.getDeclaredMethods();
        Arrays.sort(methods, Comparator.comparing(Method::getName));
        for (Method method : methods) {
            Says says = method.getAnnotation(Says.class);
            if (says != null) {
                due.begin("promise " + says.promise() + ", \"" + says.words() + "\", " + method.getName());
                run(method);
                noteWords(says);
            } else if (!Modifier.isPrivate(method.getModifiers())) {
                due.begin(method.toString());
                due.fault("it does not say which promise it is for");
            }
        }
    }

    private void run(Method method) {
        cases++;
        try {
            method.invoke(null, new CheckedLedger(due));
        } catch (InvocationTargetException thrown) {
            due.fault("a call threw " + thrown.getCause());
        } catch (IllegalAccessException unreachable) {
            due.fault("the case cannot be called: " + unreachable);
        }
    }

    private void noteWords(Says says) {
        promisesSeen.add(says.promise());
        if (document != null && !document.contains(says.words())) {
            due.fault("the document does not have these words");
        }
    }

    private void end() {
        due.begin("cases");
        for (int promise = 1; promise <= PROMISES; promise++) {
            if (!promisesSeen.contains(promise)) {
                due.fault("promise " + promise + " has none");
            }
        }
        System.out.println(cases + " cases");
        if (document == null) {
            System.out.println(DOCUMENT + " is not there: the words of the cases were not looked up in it");
        }
        due.endProgram("CasesTest");
    }
}
