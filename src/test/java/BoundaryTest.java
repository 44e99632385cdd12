import java.io.IOException;
import java.util.List;

/**
 * Every boundary case that the document names, promise by promise: each test says the promise's
 * number and the sentence that it stands for, and no sentence is left without one.
 */
public final class BoundaryTest {
    public static void main(String[] args) throws IOException {
        Promise01.run();
        Promise02.run();
        Promise03.run();
        Promise04.run();
        Promise05.run();
        Promise06.run();
        Promise07.run();
        Promise08.run();
        Promise09.run();
        Promise10.run();
        Promise11.run();
        Promise12.run();
        Promise13.run();
        Promise14.run();
        Promise15.run();
        Promise16.run();
        Promise17.run();
        compareWithDocument();
        Due.end("BoundaryTest");
    }

    private static void compareWithDocument() throws IOException {
        if (!Document.isHere()) {
            System.out.println("BoundaryTest: there is no document to compare its sentences with");
            return;
        }
        Document document = new Document();
        for (Due.Quote quote : List.copyOf(Due.quotes())) {
            Due.is("the document says " + quote, true, () -> document.says(quote));
        }
        Due.is("sentences without a test", List.of(), document::left);
    }
}
