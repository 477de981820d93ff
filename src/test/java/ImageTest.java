/** Promises 24, 25 and 30: images, and how many there are of what. */
public final class ImageTest {
    private static final String TEXT = "method;say 1 1 9;call 2 9;method;say 3;class 9;class 0;has 0 2 1;test 0 0 2;";
    private static final int MAX = Integer.MAX_VALUE;
    private static final int MIN = Integer.MIN_VALUE;

    public static void main(String[] args) {
        keepAndBack();
        twoImages();
        imagesAreTheirOwn();
        wrongOnes();
        whatNoImageHolds();
        count();
        Due.close("ImageTest");
    }

    private static void keepAndBack() {
        TestChoice x = Due.told(TEXT);
        x.say(1, 0, 0, 4);
        x.has(1, 1, 0);
        x.nexts(0, 1, 2);
        x.lead(0, 1, 1, 0);
        int danger = x.rule(4);
        int said = x.said(0, 1);
        Due.due("24: there was none", x.keep(0), 0);
        x.take();
        x.add(1, 3, 4);
        x.add(1, 4, 5);
        x.say(0, 0, 0, 9);
        x.has(0, 2, -4);
        Due.due("25: tests", x.back(0), 1);
        Due.due("25: the old program", x.node(1, 0, 1), 3);
        Due.due("25: the new program", x.node(1, 0, 11), 4);
        Due.due("25: next ones of the old", x.node(0, 1, 2), 1);
        Due.due("25: next ones of the new", x.node(0, 1, 14), 0);
        Due.due("25: meant, old", x.meant(1, 1, 0), -4);
        Due.due("25: meant, new", x.meant(1, 1, 1), 0);
        Due.due("25: meant by the class above", x.meant(1, 2, 1), 1);
        Due.due("25: danger", x.rule(4), danger);
        Due.due("25: said", x.said(0, 1), said);
        Due.due("25: the tests", x.test(0, 2), 2);
        Due.due("25: no more", x.rule(3), 1);
        Due.due("25: again", x.back(0), 1);
        Due.due("24: there was one", x.keep(0), 1);
    }

    private static void twoImages() {
        TestChoice x = Due.told(TEXT);
        Due.due("24: image 0", x.keep(0), 0);
        x.say(0, 0, 0, 5);
        x.draw(1, 3);
        Due.due("25: no image 1", x.back(1), -2);
        Due.due("24: image 1", x.keep(1), 0);
        Due.due("30: two", x.count(0), 2);
        Due.due("25: to image 0", x.back(0), 1);
        Due.due("25: its number", x.node(0, 0, 11), 1);
        Due.due("25: to image 1", x.back(1), 4);
        Due.due("25: its number", x.node(0, 0, 11), 5);
        x.drop(0);
        Due.due("24: image 0 anew", x.keep(0), 1);
        Due.due("25: image 1 stays", x.back(1), 4);
        Due.due("25: to what is in image 0 now", x.back(0), 3);
    }

    private static void imagesAreTheirOwn() {
        TestChoice x = Due.told(TEXT);
        x.keep(1);
        x.back(1);
        x.say(0, 0, 0, 5);
        x.drop(0);
        x.add(0, 9, 9);
        Due.due("25: not as changed since", x.back(1), 1);
        Due.due("25: its number", x.node(0, 0, 11), 1);
        Due.due("25: its cost", x.test(0, 2), 2);
    }

    private static void wrongOnes() {
        TestChoice x = Due.told(TEXT);
        int[] wrong = {-1, 2, MAX, MIN};
        for (int k : wrong) {
            Due.due("24: keep(" + k + ")", x.keep(k), -1);
            Due.due("25: back(" + k + ")", x.back(k), -1);
        }
        Due.due("24: none is kept", x.count(0), 0);
        Due.due("25: none", x.back(0), -2);
        Due.due("25: nothing is changed", x.rule(3), 1);
    }

    private static void whatNoImageHolds() {
        TestChoice x = Due.told(TEXT);
        x.keep(0);
        x.sheet(0, 1, 7);
        x.read(0, 0, 0, 1);
        x.feed(65);
        x.text();
        x.feed(32);
        Due.due("25: back", x.back(0), 1);
        Due.due("25: not the tape", x.count(2), 1);
        Due.due("25: not the sheets", x.count(3), 7);
        Due.due("25: not torn", x.torn(), 3);
        Due.due("25: not the fault", x.fault(), 1);
    }

    private static void count() {
        TestChoice x = Due.told(TEXT + "test 1 1 1;");
        int[] first = {0, 1, 0, -4, 6, 0};
        for (int what = 0; what < first.length; what++) {
            Due.due("30: count(" + what + ")", x.count(what), first[what]);
        }
        x.keep(1);
        x.feed(32);
        x.feed(32);
        x.sheet(1, 0, 9);
        Due.due("30: sheet 0 is nothing still", x.count(3), -4);
        x.sheet(0, 0, 0);
        Due.due("30: no cells", x.count(3), 0);
        x.sheet(0, 2, 40);
        Due.due("30: cells", x.count(3), 40);
        x.say(0, 0, 1, 1);
        x.say(1, 0, 0, 5);
        Due.due("30: images", x.count(0), 1);
        Due.due("30: calls of the old one", x.count(1), 1);
        Due.due("30: bytes", x.count(2), 2);
        Due.due("30: edges", x.count(4), 6);
        Due.due("30: other ones", x.count(5), 2);
        x.say(0, 0, 0, 1);
        Due.due("30: by a number", x.count(5), 1);
        x.leave();
        x.lead(0, 0, 0, 9);
        Due.due("30: by a next one", x.count(5), 1);
        x.leave();
        x.nexts(0, 0, 1);
        Due.due("30: by fewer next ones", x.count(5), 1);
        x.leave();
        x.lead(0, 0, 1, 0);
        Due.due("30: by the second next one", x.count(5), 1);
        x.leave();
        x.say(1, 0, 1, 3);
        Due.due("30: by the kind alone", x.count(5), 1);
        x.take();
        Due.due("30: calls then", x.count(1), 2);
        int[] wrong = {-1, 6, MAX, MIN};
        for (int what : wrong) {
            Due.due("30: count(" + what + ")", x.count(what), -1);
        }
    }
}
