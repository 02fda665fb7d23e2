/** The sentences on hot and cold streams. */
final class StreamSentences extends Chapter {
    StreamSentences(Document document, Check check) {
        super(document, check);
    }

    /** At most 10 streams: each three numbers are where one comes from, where it goes, and its flow. */
    private static Cycleworks with(int... numbers) {
        Cycleworks x = new Cycleworks();
        for (int i = 0; i + 2 < numbers.length; i += 3) {
            x.addStream(numbers[i], numbers[i + 1], numbers[i + 2]);
        }
        return x;
    }

    private static Cycleworks full() {
        Cycleworks x = new Cycleworks();
        for (int stream = 0; stream < 10; stream++) {
            x.addStream(51 + stream, 50, 1);
        }
        return x;
    }

    /** Ten streams of which the last one, of the kind that is told, has the pinch: 9 hot ones give 1 each at first. */
    private static Cycleworks lastOfTen(boolean cold) {
        Cycleworks x = new Cycleworks();
        for (int stream = 0; stream < 8; stream++) {
            x.addStream(501 + stream, 500 + stream, 1);
        }
        if (cold) {
            x.addStream(300, 200, 1);
            x.addStream(400, 500, 1);
        } else {
            x.addStream(350, 500, 1);
            x.addStream(400, 200, 2);
        }
        return x;
    }

    /** Heat that two cold streams lack, one above the other, by a hot one between them. */
    private static Cycleworks twice(int lower) {
        return with(80, 70, 1, 80, 90, 1, 60, 60 + lower, 1);
    }

    @Override
    void run() {
        numbers();
        shifted();
        needs();
        pinch();
        adding();
        telling();
    }

    private void numbers() {
        of(0);
        says("At most 10 each have");
        Cycleworks x = new Cycleworks();
        for (int stream = 1; stream <= 10; stream++) {
            int number = stream;
            due(() -> x.addStream(60, 50, 1), number);
        }
        due(() -> x.coldNeeded(0), 100);
        refuses(StreamSentences::full, y -> y.addStream(60, 50, 1), STATE);
        says("a temperature from which they go, one to which they go, 50 to 999");
        range(Cycleworks::new, 50, 999, (y, n) -> y.addStream(n, 500, 1), RANGE);
        range(Cycleworks::new, 50, 999, (y, n) -> y.addStream(500, n, 1), RANGE);
        due(() -> with(50, 999, 1).heatNeeded(0), 949);
        due(() -> with(999, 50, 1).coldNeeded(0), 949);
        says("unlike ones");
        for (int same : new int[] {50, 500, 999}) {
            refuses(Cycleworks::new, y -> y.addStream(same, same, 1), RANGE);
        }
        due(() -> new Cycleworks().addStream(500, 501, 1), 1);
        due(() -> new Cycleworks().addStream(501, 500, 1), 1);
        says("a flow, 1 to 50, the heat of each degree");
        range(Cycleworks::new, 1, 50, (y, n) -> y.addStream(60, 50, n), RANGE);
        due(() -> with(60, 50, 1).coldNeeded(0), 10);
        due(() -> with(60, 50, 50).coldNeeded(0), 500);
        says("hot ones fall, cold ones rise");
        due(() -> with(51, 50, 7).coldNeeded(0), 7);
        due(() -> with(51, 50, 7).heatNeeded(0), 0);
        due(() -> with(50, 51, 7).heatNeeded(0), 7);
        due(() -> with(50, 51, 7).coldNeeded(0), 0);
    }

    private void shifted() {
        says("With an approach, 0 to 100, hot ones count as colder by that");
        range(StreamSentences::full, 0, 100, (x, n) -> x.heatNeeded(n), RANGE);
        range(StreamSentences::full, 0, 100, (x, n) -> x.coldNeeded(n), RANGE);
        range(() -> with(50, 51, 7), 0, 100, (x, n) -> x.pinch(n), RANGE);
        // at 90 the hot one counts from 110 to 100, as the cold one goes
        int[][] needs = {{0, 0}, {89, 0}, {90, 0}, {91, 1}, {95, 5}, {100, 10}};
        for (int[] need : needs) {
            due(() -> with(200, 190, 1, 100, 110, 1).heatNeeded(need[0]), need[1]);
            due(() -> with(200, 190, 1, 100, 110, 1).coldNeeded(need[0]), need[1]);
        }
        // a hot one from 60 to 50 counts from -40 on; cold ones don't count as colder
        due(() -> with(60, 50, 3).coldNeeded(100), 30);
        due(() -> with(60, 50, 3, 50, 60, 3).heatNeeded(100), 30);
        due(() -> with(60, 50, 3, 50, 60, 3).coldNeeded(100), 30);
        due(() -> with(150, 149, 3, 50, 51, 3).heatNeeded(99), 0);
        due(() -> with(150, 149, 3, 50, 51, 3).heatNeeded(100), 3);
    }

    private void needs() {
        says("Degree by degree down, what hot ones give is summed up, less what cold ones take");
        // 5 given at the degree below 100 come too late for the 5 taken above it, not for the same degree
        due(() -> with(100, 99, 5, 99, 100, 5).heatNeeded(0), 0);
        due(() -> with(100, 99, 5, 100, 101, 5).heatNeeded(0), 5);
        due(() -> with(101, 100, 5, 99, 100, 5).heatNeeded(0), 0);
        due(() -> with(100, 98, 5, 99, 101, 5).heatNeeded(0), 5);
        due(() -> with(100, 99, 5, 100, 101, 5).coldNeeded(0), 5);
        says("The heat needed is how far that sum falls below 0 at most");
        due(() -> new Cycleworks().heatNeeded(0), 0);
        due(() -> with(100, 90, 1, 80, 90, 1).heatNeeded(0), 0);
        due(() -> with(100, 90, 1, 79, 90, 1).heatNeeded(0), 1);
        due(() -> with(100, 90, 1, 81, 90, 1).heatNeeded(0), 0);
        // 10 below, 5 below, 12 below; then more than all is given
        due(() -> with(100, 110, 1, 95, 90, 1, 80, 87, 1, 70, 50, 2).heatNeeded(0), 12);
        due(() -> with(100, 110, 1, 95, 90, 1, 80, 84, 1, 70, 50, 2).heatNeeded(0), 10);
        due(() -> with(50, 999, 50, 50, 999, 50).heatNeeded(0), 94900);
        says("the cold needed is the sum behind all degrees, and the heat needed");
        due(() -> new Cycleworks().coldNeeded(0), 0);
        due(() -> with(100, 110, 1, 95, 90, 1, 80, 87, 1, 70, 50, 2).coldNeeded(0), 5 + 40 - 17 + 12);
        due(() -> with(100, 90, 1, 79, 90, 1).coldNeeded(0), 10 - 11 + 1);
        due(() -> with(100, 90, 1, 81, 90, 1).coldNeeded(0), 1);
        due(() -> with(999, 50, 50, 999, 50, 50).coldNeeded(100), 94900);
    }

    private void pinch() {
        says("The pinch is the highest temperature down to which the sum and the heat needed are 0, if heat is needed");
        due(() -> with(50, 999, 50).pinch(0), 50);
        due(() -> with(998, 999, 1).pinch(0), 998);
        // both fall 10 below: the higher one, also if nothing comes between; 11 below: the lower one
        due(() -> twice(10).pinch(0), 80);
        due(() -> twice(9).pinch(0), 80);
        due(() -> twice(11).pinch(0), 60);
        due(() -> twice(10).heatNeeded(0), 10);
        due(() -> twice(11).heatNeeded(0), 11);
        due(() -> with(80, 90, 1, 70, 60, 1).pinch(0), 80);
        due(() -> with(60, 50, 3, 50, 70, 2).pinch(0), 60);
        due(() -> with(60, 50, 3, 50, 70, 2).pinch(9), 51);
        due(() -> with(60, 50, 3, 50, 70, 2).pinch(10), 50);
        due(() -> with(60, 50, 3, 50, 70, 2).pinch(100), 50);
        // 8 given, then 100 taken down to 400, where the last one of ten goes from
        for (boolean cold : new boolean[] {true, false}) {
            due(() -> lastOfTen(cold).pinch(0), 400);
            due(() -> lastOfTen(cold).heatNeeded(0), 92);
        }
        due(() -> lastOfTen(true).coldNeeded(0), 8 + 100 - 100 + 92);
        due(() -> lastOfTen(false).coldNeeded(0), 8 + 400 - 150 + 92);
        refuses(Cycleworks::new, x -> x.pinch(0), NONE);
        refuses(() -> with(100, 90, 1, 80, 90, 1), x -> x.pinch(0), NONE);
        due(() -> with(100, 90, 1, 79, 90, 1).pinch(0), 79);
    }

    private void adding() {
        of(35);
        says("Adds a stream.", "Returns how many there are.");
        due(() -> new Cycleworks().addStream(50, 999, 50), 1);
        due(() -> twice(9).addStream(50, 999, 50), 4);
        says("Throws IllegalArgumentException if a number is out of range, or both temperatures are the same");
        for (int wrong : new int[] {49, 1000}) {
            refuses(() -> twice(9), x -> x.addStream(wrong, 500, 1), RANGE);
            refuses(() -> twice(9), x -> x.addStream(500, wrong, 1), RANGE);
            refuses(() -> twice(9), x -> x.addStream(wrong, wrong, 1), RANGE);
            refuses(StreamSentences::full, x -> x.addStream(500, wrong, 1), RANGE);
        }
        for (int wrong : new int[] {0, 51}) {
            refuses(() -> twice(9), x -> x.addStream(500, 400, wrong), RANGE);
            refuses(StreamSentences::full, x -> x.addStream(500, 400, wrong), RANGE);
        }
        refuses(() -> twice(9), x -> x.addStream(500, 500, 1), RANGE);
        refuses(StreamSentences::full, x -> x.addStream(500, 500, 1), RANGE);
        says("Throws IllegalStateException if there are 10");
        refuses(StreamSentences::full, x -> x.addStream(50, 999, 50), STATE);
        refuses(StreamSentences::full, x -> x.addStream(999, 50, 1), STATE);
        of(36);
        says("Takes all streams away.");
        Cycleworks x = twice(9);
        due(() -> x.clearStreams(), 3);
        due(() -> x.heatNeeded(0), 0);
        due(() -> x.coldNeeded(0), 0);
        due(() -> x.addStream(60, 50, 1), 1);
        due(() -> x.coldNeeded(0), 10);
        says("Returns how many there were.");
        due(() -> new Cycleworks().clearStreams(), 0);
        due(() -> full().clearStreams(), 10);
        due(() -> x.clearStreams() + x.clearStreams(), 1);
    }

    private void telling() {
        of(37);
        says("Returns the heat needed.", "Returns the heat.");
        due(() -> twice(11).heatNeeded(0), 11);
        due(() -> twice(11).heatNeeded(100), 21);
        says("Throws IllegalArgumentException if a number is out of range");
        refuses(() -> twice(9), x -> x.heatNeeded(-1), RANGE);
        refuses(() -> twice(9), x -> x.heatNeeded(101), RANGE);
        refuses(Cycleworks::new, x -> x.heatNeeded(101), RANGE);
        of(38);
        says("Returns the cold needed.", "Returns the heat that is taken away.");
        due(() -> twice(11).coldNeeded(0), 0);
        due(() -> twice(11).coldNeeded(100), 10);
        says("Throws IllegalArgumentException if a number is out of range");
        refuses(() -> twice(9), x -> x.coldNeeded(-1), RANGE);
        refuses(() -> twice(9), x -> x.coldNeeded(101), RANGE);
        refuses(Cycleworks::new, x -> x.coldNeeded(-1), RANGE);
        of(39);
        says("Returns the pinch.");
        due(() -> twice(9).pinch(0), 80);
        says("Returns the temperature, as of cold streams.");
        // the hot one from 100 counts from 90 on, where the cold one has its pinch
        due(() -> with(100, 80, 2, 60, 120, 1).pinch(10), 90);
        due(() -> with(100, 80, 2, 60, 120, 1).heatNeeded(10), 30);
        says("Throws IllegalArgumentException if a number is out of range");
        refuses(() -> twice(9), x -> x.pinch(-1), RANGE);
        refuses(() -> twice(9), x -> x.pinch(101), RANGE);
        refuses(Cycleworks::new, x -> x.pinch(-1), RANGE);
        refuses(Cycleworks::new, x -> x.pinch(101), RANGE);
        says("Throws NoSuchElementException if no heat is needed");
        refuses(Cycleworks::new, x -> x.pinch(0), NONE);
        refuses(StreamSentences::full, x -> x.pinch(100), NONE);
        refuses(() -> with(200, 190, 1, 100, 110, 1), x -> x.pinch(90), NONE);
        due(() -> with(200, 190, 1, 100, 110, 1).pinch(91), 109);
    }
}
