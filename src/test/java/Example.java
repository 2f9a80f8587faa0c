/** The example of README.md; what is printed stands behind each line there. */
public final class Example {
    public static void main(String[] args) {
        StruckWords x = new StruckWords();

        feed(x, "sort thing begins; sort deed ends; mark done; follow thing deed; follow deed deed;"
            + "word he; word went weighs 5; word not idle;"
            + "reads he thing; reads went deed sets done; reads not deed clears done;");
        System.out.println(x.tongue());             // 11
        feed(x, "he went not");
        System.out.println(x.text());               // 3
        System.out.println(x.means(0));             // 1
        System.out.println(x.means(1));             // 0
        System.out.println(x.means(2));             // 1
        System.out.println(x.means(3));             // 2
        System.out.println(x.turns());              // 10
        System.out.println(x.safe());               // -1

        feed(x, "\1\11\0\11");
        System.out.println(x.find(6));              // 5
        System.out.println(x.foundAt(1));           // 1

        feed(x, "\0");
        System.out.println(x.torn(2, 2));           // 2
        System.out.println(x.sure(0));              // 3
        System.out.println(x.likeliest());          // 5
        System.out.println(x.foundAt(1));           // 1

        System.out.println(x.add());                // 0
        System.out.println(x.book(3));              // 1
        feed(x, "he went now");
        System.out.println(x.text());               // -9
        System.out.println(x.fault());              // 3
    }

    /** Puts a text on the tape: twenty bytes a call, and then those off that it has not. */
    private static void feed(StruckWords x, String text) {
        int[] numbers = new int[(text.length() + 19) / 20 * 5];
        for (int i = 0; i < text.length(); i++) {
            numbers[i / 4] |= text.charAt(i) << 24 - i % 4 * 8;
        }
        for (int i = 0; i < numbers.length; i += 5) {
            x.feed(numbers[i], numbers[i + 1], numbers[i + 2], numbers[i + 3], numbers[i + 4]);
        }
        x.end(text.length());
    }
}
