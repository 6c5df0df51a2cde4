/** Promise 25: digest, against sums that are made here from the other answers. */
final class DigestTest {
    public static void main(String[] args) {
        Check.same("digest() of a new object", 2008449459254L, new OffsideParser().digest());
        Check.same("digest() of nothing", byHand(0, 1, 0, 0, 0, 0, 0), new OffsideParser().digest());
        String[] texts = {"a", "a b a: {1; (c)} )", "@@@", "abcdefghijklmnop 12345678901", "a:b:c\nd", "x; y:{z"};
        for (String text : texts) {
            OffsideParser x = Check.fed(text);
            Check.same("digest() before parse of " + text,
                    byHand(text.length(), 1, 0, 0, 0, 0, 0), x.digest());
            x.parse();
            Check.same("digest() of " + text, fromAnswers(x), x.digest());
        }
        Check.same("digest() of a", byHand(1, 3, 0, 1, 0, 1, 1, 0, 2, 0, 1, 97, 0, 1), Check.parsed("a").digest());
        OffsideParser x = Check.parsed("a; bc: {d}; (1 @");
        x.remove(1);
        Check.same("digest() after remove", fromAnswers(x), x.digest());
        x.rename(2, Check.pack("other"));
        Check.same("digest() after rename", fromAnswers(x), x.digest());
        x.move(x.child(0, 1), 3, 1);
        Check.same("digest() after move", fromAnswers(x), x.digest());
        x.trim(2);
        Check.same("digest() after trim", fromAnswers(x), x.digest());
        Check.end("DigestTest");
    }

    private static long byHand(long... numbers) {
        long d = 73;
        for (long number : numbers) {
            d = d * 31 + number;
        }
        return d;
    }

    private static long fromAnswers(OffsideParser x) {
        long d = byHand(x.length(), x.nodeCount());
        for (int node = 0; node < x.nodeCount(); node++) {
            d = d * 31 + x.kind(node);
            d = d * 31 + x.childCount(node);
            d = d * 31 + x.value(node);
            for (int i = 0; x.kind(node) == 2 && i < x.value(node); i++) {
                d = d * 31 + x.letter(node, i);
            }
        }
        return (d * 31 + x.repairCount()) * 31 + x.wordCount();
    }
}
