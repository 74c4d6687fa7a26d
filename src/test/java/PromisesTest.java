/** Promise by promise: ordinary calls, the edges that the document names, and wrong arguments. */
public final class PromisesTest {
    public static void main(String[] args) {
        newObject();
        start();
        set();
        stock();
        erect();
        erectReasons();
        lower();
        deck();
        put();
        take();
        refusal();
        report();
        bay();
        post();
        load();
        steps();
        ties();
        missing();
        dismantling();
        dismantlingStops();
        dismantlingAll();
        account();
        useAndMeanClass();
        feed();
        perform();
        performRefused();
        undo();
        saveAndRestore();
        Script.finish();
    }

    private static void newObject() {
        Script.run("promise 1", """
            account(12) = 4
            bay(3, 0) = 0
            bay(4, 0) ! IndexOutOfBounds
            account(0) = 0
            account(5) = 0
            account(6) = 60
            account(11) = 60
            account(13) = 0
            account(15) = 3
            account(16) = 2
            account(17) = 600
            undo() ! IllegalState
            restore() ! IllegalState
            report(0, false) ! NoSuchElement
            dismantling() = 0
            perform() = -100
            feed(e) = 1
            """);
    }

    private static void start() {
        Script.run("promise 2", """
            erect(0) = 1
            start(3) ! IllegalArgument
            start(11) ! IllegalArgument
            start(MIN) ! IllegalArgument
            start(MAX) ! IllegalArgument
            undo() = 0          // a start that fails takes nothing away
            start(10) = 4
            bay(9, 0) = 0
            post(10, 0) ! IndexOutOfBounds
            erect(9) = 1
            post(0, 0) = 1      // the last bay is beside bay 0
            put(3, 9, 1) = 1
            lower(5) ! UnsupportedOperation
            put(4, 9, 1) = 1
            put(4, 0, 1) = 2
            save() = 10
            set(0, 4) = 3
            set(1, 3) = 2
            set(2, 700) = 600
            stock(0, 5) = 58
            type e1
            start(4) = 10
            undo() ! IllegalState
            account(12) = 4
            account(0) = 0
            account(4) = 0
            account(6) = 60
            account(13) = 0
            account(15) = 3
            account(16) = 2
            account(17) = 600
            report(0, true) = 5  // the report stays
            perform() = 1        // the input buffer stays
            bay(1, 0) = 1
            restore() = 10       // what was saved stays
            bay(9, 2) = 2
            """);
    }

    private static void set() {
        Script.run("promise 3, ranges", """
            set(-1, 3) ! IllegalArgument
            set(3, 3) ! IllegalArgument
            set(0, 0) ! IllegalArgument
            set(0, 5) ! IllegalArgument
            set(1, -1) ! IllegalArgument
            set(1, 4) ! IllegalArgument
            set(2, 99) ! IllegalArgument
            set(2, 2001) ! IllegalArgument
            set(2, MIN) ! IllegalArgument
            undo() ! IllegalState
            set(0, 1) = 3
            set(0, 4) = 1
            set(1, 0) = 2
            set(1, 3) = 0
            set(2, 100) = 600
            set(2, 2000) = 100
            account(15) = 4
            account(16) = 3
            account(17) = 2000
            undo() = 5
            account(17) = 100
            """);
        Script.run("promise 3, stability", """
            erect(0) = 1
            deck(0, 1, 4) = 1
            set(2, 219) ! IllegalState
            set(2, 220) = 600
            set(1, 0) ! IllegalState
            set(1, 1) = 2
            put(3, 0, 1) = 1
            put(5, 0, 1) = 1
            account(16) = 1
            set(1, 2) = 1
            set(2, 600) = 220
            erect(0) = 2
            set(1, 1) ! IllegalState
            put(4, 0, 2) = 1
            set(0, 1) ! IllegalState   // from 0 to 2
            set(0, 2) = 3
            account(13) = 6
            report(0, false) ! NoSuchElement
            """);
    }

    private static void stock() {
        Script.run("promise 4", """
            stock(-1, -1) ! IndexOutOfBounds
            stock(6, 1000) ! IndexOutOfBounds
            stock(0, -1) ! IllegalArgument
            stock(5, 1000) ! IllegalArgument
            undo() ! IllegalState
            erect(0) = 1
            put(3, 0, 1) = 1
            stock(3, 999) = 59
            take(3, 0, 1) = 0
            account(9) = 1000
            stock(3, 0) = 1000
            put(3, 0, 1) ! UnsupportedOperation
            stock(5, 7) = 60
            account(11) = 7
            account(6) = 58
            account(13) = 3
            """);
    }

    private static void erect() {
        Script.run("promise 5", """
            erect(-1) ! IndexOutOfBounds
            erect(4) ! IndexOutOfBounds
            stock(0, 3) = 60
            stock(1, 7) = 60
            erect(0) = 1
            account(6) = 1       // both posts become higher
            account(7) = 5
            erect(1) = 1
            account(6) = 0       // one of them
            erect(2) ! UnsupportedOperation
            report(1, false) = 5
            report(1, true) = 0
            stock(0, 1) = 0
            erect(2) = 1
            account(6) = 0
            account(7) = 1
            stock(0, 0) = 0
            erect(3) ! UnsupportedOperation  // no post is needed, but two ledgers
            report(0, false) = 0
            report(0, true) = 3
            report(1, false) = 5
            report(1, true) = 1
            stock(1, 2) = 1
            erect(3) = 1
            account(0) = 4
            account(1) = 8
            account(13) = 4
            """);
        Script.run("promise 5, six levels", """
            tower
            account(13) = 27
            bay(0, 0) = 6
            erect(0) ! UnsupportedOperation
            report(0, false) = 0
            report(0, true) = 0
            report(1, false) = 1
            report(1, true) = 6
            report(2, false) ! NoSuchElement
            account(0) = 12
            account(1) = 12
            account(13) = 27
            """);
    }

    private static void erectReasons() {
        Script.run("promise 5, standing before pieces, pieces before stability", """
            stock(0, 2) = 60
            erect(2) = 1
            erect(2) ! UnsupportedOperation
            report(0, true) = 2
            report(1, false) = 4
            report(1, true) = 2
            deck(2, 1, 1) = 1
            put(5, 2, 1) = 1
            erect(2) ! UnsupportedOperation
            report(1, false) = 5
            report(1, true) = 0
            stock(0, 9) = 0
            erect(2) ! UnsupportedOperation
            report(1, false) = 7
            report(1, true) = 2
            set(1, 1) = 2
            erect(2) ! UnsupportedOperation
            report(1, false) = 6
            report(1, true) = 2
            put(4, 2, 1) = 1
            erect(2) ! UnsupportedOperation
            report(1, false) = 6
            report(1, true) = 3
            """);
        Script.run("promise 5, capacity", """
            set(2, 140) = 600
            type e0;d0.1;l0.1;b0.1;e0;d0.2;l0.2;b0.2;t0.2;t1.2
            perform() = 10
            post(0, 2) = 140
            erect(0) ! UnsupportedOperation
            report(1, false) = 8
            report(1, true) = 0
            set(2, 160) = 140
            erect(0) = 3
            """);
    }

    private static void lower() {
        Script.run("promise 6", """
            lower(-1) ! IndexOutOfBounds
            lower(4) ! IndexOutOfBounds
            lower(3) ! UnsupportedOperation
            report(0, false) = 0
            report(0, true) = 3
            report(1, false) = 1
            report(1, true) = 0
            type e0;d0.1;b0.1;l0.1;t0.1;t1.1
            perform() = 6
            lower(0) ! UnsupportedOperation
            report(1, false) = 3
            report(1, true) = 2
            type -l0.1;-d0.1
            perform() = 2
            lower(0) ! UnsupportedOperation
            report(1, true) = 3
            take(3, 0, 1) = 0
            lower(0) ! UnsupportedOperation
            report(1, false) = 3
            report(1, true) = 4
            take(4, 0, 1) = 1
            lower(0) ! UnsupportedOperation
            report(1, true) = 4
            erect(1) = 1
            lower(0) = 0             // post 1 stays as high
            account(6) = 58
            account(7) = 58
            lower(1) ! UnsupportedOperation
            report(1, true) = 4
            """);
        Script.run("promise 6, ties of posts that stay as high", """
            type e0;e1;e3;t0.1;t1.1;t2.1
            perform() = 6
            lower(0) = 0              // bays 3 and 1 are as high
            lower(1) ! UnsupportedOperation
            report(1, false) = 3
            report(1, true) = 4
            lower(3) ! UnsupportedOperation
            report(1, true) = 4
            take(4, 0, 1) = 2
            lower(3) = 0
            lower(1) ! UnsupportedOperation
            take(4, 1, 1) = 1
            lower(1) ! UnsupportedOperation
            take(4, 2, 1) = 0
            lower(1) = 0
            """);
        Script.run("promise 6, standing", """
            type e0;d0.1;l0.1;b0.1;e0;-l0.1
            perform() = 6
            lower(0) ! UnsupportedOperation
            report(1, false) = 4
            report(1, true) = 2
            put(5, 0, 1) = 1
            lower(0) = 1
            account(7) = 58
            account(13) = 8
            """);
    }

    private static void deck() {
        Script.run("promise 7", """
            deck(4, 1, 9) ! IndexOutOfBounds
            deck(-1, 1, 1) ! IndexOutOfBounds
            deck(0, 1, 0) ! IllegalArgument
            deck(0, 1, 5) ! IllegalArgument
            report(0, false) ! NoSuchElement
            deck(0, 1, 1) ! UnsupportedOperation
            report(0, false) = 2
            report(0, true) = 0
            report(1, false) = 1
            report(1, true) = 0
            erect(0) = 1
            deck(0, MIN, 1) ! UnsupportedOperation
            report(1, true) = 1
            deck(0, MAX, 1) ! UnsupportedOperation
            deck(0, 33, 1) ! UnsupportedOperation
            report(1, false) = 1
            deck(0, 0, 1) ! UnsupportedOperation
            deck(0, 1, 3) = 1
            deck(0, 1, 3) ! UnsupportedOperation
            report(1, false) = 2
            report(1, true) = 1
            put(3, 0, 1) = 1
            put(5, 0, 1) = 1
            erect(0) = 2
            take(5, 0, 1) = 0
            deck(0, 2, 1) ! UnsupportedOperation
            report(1, false) = 4
            report(1, true) = 2
            put(5, 0, 1) = 1
            stock(2, 0) = 59
            deck(0, 2, 1) ! UnsupportedOperation
            report(1, false) = 5
            report(1, true) = 2
            stock(2, 9) = 0
            set(2, 240) = 600
            deck(0, 2, 2) ! UnsupportedOperation
            report(1, false) = 8
            report(1, true) = 0
            deck(0, 2, 1) = 2
            account(8) = 8
            account(2) = 2
            """);
        Script.run("promise 7, the heavier post", """
            set(2, 220) = 600
            type e0;e1;e2;d0.1*2
            perform() = 4
            deck(1, 1, 3) ! UnsupportedOperation
            report(1, false) = 8
            report(1, true) = 1
            deck(1, 1, 2) = 1
            post(1, 2) = 220
            deck(3, 1, 1) ! UnsupportedOperation
            report(1, false) = 1
            """);
    }

    private static void put() {
        Script.run("promise 8", """
            put(2, 9, 1) ! IllegalArgument
            put(6, 0, 1) ! IllegalArgument
            put(3, 4, 1) ! IndexOutOfBounds
            put(4, -1, 1) ! IndexOutOfBounds
            put(4, 1, 1) ! UnsupportedOperation
            report(0, false) = 4
            report(0, true) = 1
            report(1, false) = 1
            report(1, true) = 0
            erect(0) = 1
            put(4, 1, 1) = 1          // a post of bay 0
            put(4, 0, 1) = 2
            put(4, 2, 1) ! UnsupportedOperation
            put(4, 0, 1) ! UnsupportedOperation
            report(1, false) = 2
            put(5, 0, 1) ! UnsupportedOperation
            report(1, false) = 3
            report(1, true) = 1
            deck(0, 1, 1) = 1
            put(5, 0, 1) = 1
            put(3, 0, 1) = 1
            put(3, 0, MIN) ! UnsupportedOperation
            report(1, false) = 1
            report(1, true) = 1
            erect(0) = 2
            put(5, 0, 2) ! UnsupportedOperation
            report(1, false) = 3
            report(1, true) = 2
            type -l0.1;-d0.1
            perform() = 2
            put(5, 0, 2) ! UnsupportedOperation
            report(1, false) = 3
            report(1, true) = 1       // both are missing
            put(3, 0, 2) ! UnsupportedOperation
            report(1, false) = 4
            report(1, true) = 2
            account(9) = 59
            """);
        Script.run("promise 8, a tie from either bay", """
            type e0;d0.1;l0.1;b0.1;e0;e1;d1.1;l1.1;e1
            perform() = 9
            put(4, 0, 2) = 1
            put(4, 2, 2) = 2
            type -l0.1;-l1.1
            perform() = 2
            put(4, 1, 2) ! UnsupportedOperation
            report(1, false) = 4
            put(5, 0, 1) = 1
            put(4, 1, 2) = 3
            stock(4, 0) = 57
            put(4, 0, 1) ! UnsupportedOperation
            report(1, false) = 5
            report(1, true) = 4
            """);
    }

    private static void take() {
        Script.run("promise 9", """
            tower
            take(1, 9, 1) ! IllegalArgument
            take(6, 0, 1) ! IllegalArgument
            take(2, 4, 1) ! IndexOutOfBounds
            take(3, 0, 7) ! UnsupportedOperation
            report(0, false) = 3
            report(1, false) = 1
            report(1, true) = 6
            take(3, 0, 6) ! UnsupportedOperation
            report(1, false) = 2
            report(1, true) = 6
            take(2, 0, 3) ! UnsupportedOperation
            report(1, false) = 3
            report(1, true) = 3          // of two ladders the lower one
            take(4, 0, 4) ! UnsupportedOperation
            report(1, false) = 6
            report(1, true) = 0
            take(4, 1, 2) ! UnsupportedOperation
            report(1, false) = 6
            report(1, true) = 1
            take(3, 0, 2) ! UnsupportedOperation
            report(1, false) = 7
            report(1, true) = 0
            take(5, 0, 3) = 5
            take(2, 0, 3) ! UnsupportedOperation
            report(1, false) = 3
            report(1, true) = 4
            take(5, 0, 6) ! UnsupportedOperation
            report(1, false) = 4         // its deck cannot be reached any more
            report(1, true) = 6
            put(5, 0, 3) = 6
            take(5, 0, 6) = 5
            take(2, 0, 6) = 5
            lower(0) = 5
            take(3, 0, 5) = 4
            set(0, 4) = 3
            take(4, 1, 2) = 3
            account(10) = 57
            account(13) = 34
            """);
        Script.run("promise 9, a brace for both neighbors", """
            type b1.1
            perform() ! UnsupportedOperation
            type e0;e1;e2;d0.1;l0.1;b1.1;e0;d2.1;d1.1;e2
            perform() = 10
            take(3, 1, 1) ! UnsupportedOperation
            report(1, false) = 7
            report(1, true) = 0
            put(3, 0, 1) = 2
            take(3, 1, 1) ! UnsupportedOperation
            report(1, true) = 2
            put(3, 3, 1) ! UnsupportedOperation
            put(3, 2, 1) = 3
            take(3, 1, 1) = 2
            """);
    }

    private static void refusal() {
        Script.run("promise 10", """
            refusal(1, 9, 1, true) ! IllegalArgument
            refusal(-1, 0, 1, true) ! IllegalArgument
            refusal(6, 0, 1, true) ! IllegalArgument
            refusal(0, 4, 1, false) ! IndexOutOfBounds
            refusal(0, -1, 1, false) ! IndexOutOfBounds
            refusal(0, 0, MIN, false) = 0
            refusal(0, 0, 1, true) = 1
            refusal(2, 0, 1, false) = 1
            erect(0) = 1
            refusal(0, 0, 99, true) = 0
            refusal(2, 0, 1, true) = 2
            refusal(5, 0, 1, false) = 3
            refusal(0, 0, 1, false) = 4
            stock(4, 0) = 60
            refusal(4, 0, 1, false) = 5
            set(1, 1) = 2
            deck(0, 1, 1) = 1
            put(5, 0, 1) = 1
            refusal(0, 0, 1, false) = 6
            set(1, 2) = 1
            refusal(0, 0, 1, false) = 7
            put(3, 0, 1) = 1
            refusal(0, 0, 1, false) = 0
            erect(0) = 2
            set(2, 100) = 600
            refusal(2, 0, 2, false) = 8
            set(2, 140) = 100
            refusal(2, 0, 2, false) = 0    // with class 1
            deck(0, 2, 2) ! UnsupportedOperation
            refusal(3, 2, 1, false) = 1
            report(0, false) = 2
            report(1, false) = 8
            account(13) = 5
            undo() = 7
            """);
    }

    private static void report() {
        Script.run("promise 11", """
            report(0, false) ! NoSuchElement
            report(-1, true) ! NoSuchElement
            lower(2) ! UnsupportedOperation
            report(0, false) = 0
            report(0, true) = 2
            report(1, false) = 1
            report(1, true) = 0
            report(2, false) ! NoSuchElement
            report(MAX, false) ! NoSuchElement
            report(MIN, false) ! NoSuchElement
            type e1;t3.1
            perform() ! UnsupportedOperation
            report(0, false) = 9
            report(0, true) = 1
            report(1, false) = 4
            report(1, true) = 3
            report(2, false) = 1
            report(2, true) = 0
            report(3, true) ! NoSuchElement
            erect(0) = 1
            report(0, false) = 9          // stays until the next one
            put(5, 0, 1) ! UnsupportedOperation
            report(0, false) = 5
            report(2, false) ! NoSuchElement
            """);
    }

    private static void bay() {
        Script.run("promise 12", """
            tower
            bay(-1, 9) ! IndexOutOfBounds
            bay(4, 0) ! IndexOutOfBounds
            bay(0, -1) ! IllegalArgument
            bay(0, 6) ! IllegalArgument
            bay(0, 0) = 6
            bay(0, 1) = 126
            bay(0, 2) = 62
            bay(0, 3) = 126
            bay(0, 4) = 126
            bay(0, 5) = 126
            bay(1, 0) = 0
            bay(1, 4) = 0
            take(5, 0, 4) = 5
            bay(0, 5) = 14
            bay(0, 3) = 110
            bay(0, 1) = 126
            erect(3) = 1
            bay(3, 4) = 2
            deck(3, 1, 1) = 1
            bay(3, 5) = 2            // beside the deck of bay 0
            """);
    }

    private static void post() {
        Script.run("promise 13", """
            tower
            post(4, 9) ! IndexOutOfBounds
            post(-1, 0) ! IndexOutOfBounds
            post(0, -1) ! IllegalArgument
            post(0, 5) ! IllegalArgument
            post(0, 0) = 6
            post(1, 0) = 6
            post(2, 0) = 0
            post(0, 1) = 20
            post(0, 2) = 420
            post(2, 2) = 0
            post(0, 3) = 20
            post(0, 4) = 96           // 5 and 6: 7 is two above 5
            post(2, 4) = 0
            put(4, 0, 3) = 5
            post(0, 3) = 16
            set(0, 2) = 3
            post(0, 3) = 20
            post(0, 4) = 96
            set(0, 1) ! IllegalState
            """);
        Script.run("promise 13, one tie more", """
            erect(0) = 1
            post(0, 4) = 2            // held by it or without
            post(3, 4) = 0
            set(1, 1) = 2
            post(0, 4) = 2
            put(4, 0, 1) = 1
            post(0, 3) = 0
            post(0, 4) = 0
            set(1, 0) ! IllegalState
            put(4, 1, 1) = 2
            set(1, 0) = 1
            post(1, 3) = 2
            post(1, 4) = 0
            """);
    }

    private static void load() {
        Script.run("promise 14", """
            erect(0) = 1
            load(0, 1) ! NoSuchElement
            deck(0, 1, 4) = 1
            load(0, 1) = 4
            load(0, 0) ! NoSuchElement
            load(0, 2) ! NoSuchElement
            load(0, 33) ! NoSuchElement
            load(1, 1) ! NoSuchElement
            load(0, MIN) ! NoSuchElement
            load(0, MAX) ! NoSuchElement
            load(4, 1) ! IndexOutOfBounds
            load(-1, 9) ! IndexOutOfBounds
            take(2, 0, 1) = 0
            load(0, 1) ! NoSuchElement
            post(0, 2) = 20
            deck(0, 1, 2) = 1
            load(0, 1) = 2
            post(1, 2) = 120
            """);
    }

    private static void steps() {
        Script.run("promise 15, up to the highest level", """
            tower
            steps(0, 6) = 6
            steps(0, 5) = 5
            take(5, 0, 1) = 5
            steps(0, 6) ! NoSuchElement
            account(14) = 0
            """);
        Script.run("promise 15", """
            start(5) = 4
            steps(5, 1) ! IndexOutOfBounds
            steps(-1, 1) ! IndexOutOfBounds
            steps(0, 1) ! NoSuchElement
            type e0;e1;e2;e3;e4;d0.1;d1.1;d2.1;d3.1;d4.1
            perform() = 10
            steps(0, 1) ! NoSuchElement
            account(14) = 0
            put(5, 0, 1) = 1
            steps(0, 1) = 1
            steps(1, 1) = 2
            steps(2, 1) = 3
            steps(3, 1) = 3            // the other way round
            steps(4, 1) = 2
            put(5, 2, 1) = 2
            steps(3, 1) = 2
            type b0.1;b1.1;b2.1;b3.1;e0;e1;e2;e3;d0.2;d1.2;d2.2;l0.2
            perform() = 12
            steps(2, 2) = 4
            take(2, 4, 1) = 7
            type -l2.1;-d1.1
            perform() = 2
            steps(2, 1) ! NoSuchElement
            stock(5, 1) = 58
            put(5, 2, 1) = 3
            type l2.2;-l2.1;-l0.1
            perform() ! UnsupportedOperation
            report(0, true) = 0
            stock(5, 2) = 0
            type l2.2;-l2.1
            perform() = 2
            steps(2, 1) = 5            // up, along, and down
            steps(2, 0) ! NoSuchElement
            steps(2, 34) ! NoSuchElement
            steps(2, MAX) ! NoSuchElement
            bay(2, 5) = 6
            account(14) = 6
            """);
    }

    private static void ties() {
        Script.run("promises 16 and 17", """
            fewestTies(-1) ! IllegalArgument
            fewestTies(13) ! IllegalArgument
            tieLevels(-1) ! IllegalArgument
            tieLevels(13) ! IllegalArgument
            tieLevels(MAX) ! IllegalArgument
            fewestTies(0) = 0
            tieLevels(0) = 0
            fewestTies(2) = 0
            tieLevels(2) = 0
            fewestTies(3) = 1
            tieLevels(3) = 2
            fewestTies(5) = 1
            tieLevels(5) = 8
            fewestTies(6) = 2
            tieLevels(6) = 18
            fewestTies(12) = 4
            tieLevels(12) = 1170
            set(1, 0) = 2
            fewestTies(1) = 1
            tieLevels(1) = 2
            tieLevels(12) = 4680
            set(0, 1) = 3
            fewestTies(12) = 12
            tieLevels(12) = 8190
            set(0, 4) = 1
            set(1, 3) = 0
            fewestTies(12) = 3
            tieLevels(12) = 546
            fewestTies(3) = 0
            """);
    }

    private static void missing() {
        Script.run("promise 18", """
            missing(2, 1) ! IllegalArgument
            missing(-1, 1) ! IllegalArgument
            missing(0, -1) ! IllegalArgument
            missing(1, 7) ! IllegalArgument
            missing(0, 6) = 0
            missing(1, 6) = 0
            stock(0, 3) = 60
            stock(1, 3) = 60
            missing(0, 1) = 1
            missing(1, 1) = 5
            missing(0, 0) = 0
            missing(0, 6) = 21
            missing(1, 6) = 45
            erect(0) = 1
            missing(0, 1) = 1       // two posts are there, one in the yard
            missing(1, 1) = 5
            missing(0, 6) = 21
            stock(1, 60) = 1
            type d0.1;l0.1;b0.1
            perform() = 3
            stock(0, 2) = 1
            erect(0) = 2
            missing(0, 1) = 2
            missing(0, 2) = 4
            missing(1, 2) = 0
            account(13) = 5
            """);
    }

    private static void dismantling() {
        Script.run("promises 19 and 20", """
            work(0, 3) ! IllegalArgument
            work(0, -1) ! IllegalArgument
            work(0, 0) ! IndexOutOfBounds
            dismantling() = 0
            type e0;e1;d1.1;d0.1;l1.1;l0.1;b1.1;b0.1;t2.1;t0.1;e0
            perform() = 11
            dismantling() = 11
            work(0, 0) = 0
            work(0, 1) = 0
            work(0, 2) = 2
            work(1, 0) = 5
            work(1, 1) = 0
            work(1, 2) = 1
            work(2, 0) = 5
            work(2, 1) = 1
            work(3, 0) = 4
            work(3, 1) = 0
            work(4, 0) = 4
            work(4, 1) = 2
            work(5, 0) = 3
            work(5, 1) = 0
            work(6, 0) = 3
            work(6, 1) = 1
            work(7, 0) = 2
            work(7, 1) = 0
            work(8, 0) = 2
            work(9, 0) = 0
            work(9, 1) = 0
            work(10, 0) = 0
            work(10, 1) = 1
            work(10, 2) = 1
            work(11, 0) ! IndexOutOfBounds
            work(-1, 0) ! IndexOutOfBounds
            work(MAX, 3) ! IllegalArgument
            work(MAX, 0) ! IndexOutOfBounds
            account(13) = 11
            bay(0, 0) = 2
            undo() = 0
            dismantling() = 0
            """);
        Script.run("promises 19 and 20, what must wait", """
            tower
            work(0, 0) = 5
            dismantling() = 27
            work(0, 2) = 6
            work(1, 0) = 2
            work(2, 0) = 0
            work(2, 2) = 6
            work(3, 0) = 5
            work(3, 2) = 5
            work(4, 0) = 3
            work(4, 2) = 5
            work(5, 0) = 2
            work(6, 0) = 0
            work(7, 0) = 5
            work(7, 2) = 4
            work(8, 0) = 4            // nothing above 4 needs the ties any more
            work(8, 1) = 0
            work(8, 2) = 4
            work(9, 1) = 1
            work(10, 0) = 3
            work(26, 0) = 0
            work(26, 2) = 1
            """);
    }

    private static void dismantlingStops() {
        Script.run("promises 19 and 20, no end", """
            type e0;d0.1;l0.1;b0.1;e0;d0.2;l0.2;-l0.1;e2;b2.1
            perform() = 10
            dismantling() ! NoSuchElement
            work(0, 0) = 3
            work(0, 1) = 2
            work(1, 0) = 0
            work(1, 1) = 2
            work(1, 2) = 1
            work(2, 0) ! IndexOutOfBounds
            put(5, 0, 1) = 2
            dismantling() = 9
            take(5, 0, 1) = 1
            dismantling() ! NoSuchElement
            undo() = 2
            dismantling() = 9
            save() = 4
            start(4) = 4
            dismantling() = 0
            restore() = 4
            dismantling() = 9
            """);
    }

    /** As much as a scaffold can hold. */
    private static void dismantlingAll() {
        ScaffoldPlanner planner = new ScaffoldPlanner();
        Script.runOn(planner, "promise 19, all", """
            start(10) = 4
            set(2, 2000) = 600
            stock(0, 60) = 60
            stock(1, 120) = 60
            """);
        for (int level = 1; level <= 6; level++) {
            for (int bay = 0; bay < 10; bay++) {
                Script.due("promise 5, all", planner.erect(bay), level);
                Script.due("promise 7, all", planner.deck(bay, level, 1), level);
                Script.due("promise 8, all", planner.put(5, bay, level), 10 * level - 9 + bay);
                planner.put(3, bay, level);
            }
            for (int post = 0; post < 10; post++) planner.put(4, post, level);
        }
        Script.runOn(planner, "promise 19, all", """
            account(1) = 120
            account(6) = 0
            account(7) = 0
            account(13) = 300
            account(14) = 60
            post(0, 2) = 720
            dismantling() = 300
            work(299, 0) = 0
            work(299, 1) = 9
            work(299, 2) = 1
            work(300, 0) ! IndexOutOfBounds
            erect(9) ! UnsupportedOperation
            report(1, false) = 1
            """);
    }

    private static void account() {
        Script.run("promise 21", """
            tower
            account(-1) ! IllegalArgument
            account(18) ! IllegalArgument
            account(MIN) ! IllegalArgument
            account(0) = 12
            account(1) = 12
            account(2) = 6
            account(3) = 5
            account(4) = 4
            account(5) = 6
            account(6) = 48
            account(7) = 48
            account(8) = 54
            account(9) = 55
            account(10) = 56
            account(11) = 54
            account(12) = 4
            account(13) = 27
            account(14) = 6
            account(15) = 3
            account(16) = 2
            account(17) = 600
            set(0, 4) = 3
            account(13) = 27
            take(5, 0, 6) = 5
            account(13) = 28
            account(14) = 5
            undo() = 4
            account(13) = 27
            undo() = 3
            undo() = 2
            account(13) = 20
            """);
    }

    private static void useAndMeanClass() {
        Script.run("promises 22 and 23", """
            meanClass() ! Arithmetic
            use(-1) ! IndexOutOfBounds
            use(4) ! IndexOutOfBounds
            use(0) = 0.0
            type e0;d0.1*3;e1;d1.1*4;e2;d2.1*4
            perform() = 6
            meanClass() = 3.6666666666666665
            use(0) = 0.28333333
            use(1) = 0.6166667
            """);
    }

    private static void feed() {
        Script.run("promise 24", """
            type 1234567890123456789012345678901234567890123456789012345678901234567890123456789
            feed(e) = 80
            feed(e) ! IllegalState
            feed(e) ! IllegalState
            perform() = -100
            feed(~) = 1
            perform() = -100
            feed(e) = 1
            """);
        Script.run("promise 24, a text of 80 characters", """
            type e0;-e0;e0;-e0;e0;-e0;e0;-e0;e0;-e0;e0;-e0;e0;-e0;e0;-e0;e0;-e0;e0;-e0;e0;d0.1;e
            feed(1) = 80
            feed(1) ! IllegalState
            perform() = 23
            account(2) = 1
            type -d0.1;-e0;e0;-e0;e0;-e0;e0;-e0;e0;-e0;e0;-e0;e0;-e0;e0;-e0;e0;-e0;e0;-e0;e0;-e0;
            feed(0) ! IllegalState
            perform() = -180
            """);
    }

    private static void syntax(String text, int answer) {
        Script.run("promise 25, " + text, "type " + text + "\nperform() = " + answer
            + "\nperform() = -100\naccount(13) = 0\nundo() ! IllegalState\nreport(0, false) ! NoSuchElement");
    }

    private static void perform() {
        syntax("x", -100);
        syntax("E0", -100);
        syntax(";", -100);
        syntax("-", -101);
        syntax("--e0", -101);
        syntax("e", -101);
        syntax("ex", -101);
        syntax("e:", -101);
        syntax("e/", -101);
        syntax("e0;", -103);
        syntax("e0;;", -103);
        syntax("e0 ;e1", -102);
        syntax("e0.1", -102);
        syntax("e00", -102);
        syntax("e0e1", -102);
        syntax("e0-e1", -102);
        syntax("d01", -102);
        syntax("-t01", -103);
        syntax("l0x1", -102);
        syntax("d0", -102);
        syntax("d0;", -102);
        syntax("d0.", -103);
        syntax("d0.x", -103);
        syntax("d0.1*", -105);
        syntax("d0.1*x", -105);
        syntax("d0.1*12", -106);
        syntax("d0.1**", -105);
        syntax("t0.1*1", -104);
        syntax("b0.1*1", -104);
        syntax("l0.1x", -104);
        syntax("e0;-l0.", -107);
        syntax("e0;p1.1", -103);
        Script.run("promise 25", """
            type e0;d0.1*3;b0.1;l0.1;t0.1;e0
            perform() = 6
            bay(0, 0) = 2
            load(0, 1) = 3
            bay(0, 2) = 2
            bay(0, 3) = 2
            post(0, 1) = 2
            account(13) = 6
            type -e0;-t0.1;-l0.1;-d0.1*9;-b0.1;-e0
            perform() = 6
            account(0) = 0
            account(13) = 12
            undo() = 1
            bay(0, 0) = 2
            account(13) = 6
            type e0
            undo() = 0
            feed(;) = 3
            type d0.1
            perform() = 2
            load(0, 1) = 1            // the class if it is missing
            """);
    }

    private static void performRefused() {
        Script.run("promise 25, refusals", """
            type e0;e1;l1.1;e2
            perform() ! UnsupportedOperation
            report(0, false) = 9
            report(0, true) = 2
            report(1, false) = 5
            report(1, true) = 1
            report(2, false) = 3
            report(2, true) = 1
            account(1) = 0            // none is carried out
            account(13) = 0
            undo() ! IllegalState
            perform() = -100          // the buffer is empty
            type e0;e4
            perform() ! UnsupportedOperation
            report(0, true) = 2       // out of range: the earlier report
            type e0;t9.1
            perform() ! UnsupportedOperation
            type e0;d0.1*0
            perform() ! UnsupportedOperation
            type e0;d0.1*5
            perform() ! UnsupportedOperation
            report(1, false) = 5
            type -d0.7*5
            perform() ! UnsupportedOperation
            report(0, true) = 0
            report(1, false) = 2
            report(2, false) = 1
            type e0;d0.0;e9
            perform() ! UnsupportedOperation
            report(0, true) = 1
            report(2, true) = 1
            type e9;d0.0
            perform() ! UnsupportedOperation
            report(0, true) = 1
            type -d0.1*9
            perform() ! UnsupportedOperation
            report(1, false) = 2
            account(1) = 0
            type e4;e
            perform() = -104
            """);
        Script.run("promise 25, a command sees what those ahead of it did", """
            start(10) = 4
            stock(1, 2) = 60
            type e9;-e9;e8
            perform() = 3
            bay(8, 0) = 1
            account(13) = 3
            """);
    }

    private static void undo() {
        Script.run("promise 26", """
            undo() ! IllegalState
            set(0, 3) = 3
            stock(0, 60) = 60
            undo() = 1                // also if nothing is different then
            undo() = 0
            undo() ! IllegalState
            erect(0) = 1
            deck(0, 1, 2) = 1
            put(5, 0, 1) = 1
            put(3, 0, 1) = 1
            take(3, 0, 1) = 0
            take(5, 0, 1) = 0
            take(2, 0, 1) = 0
            lower(0) = 0
            stock(5, 1) = 60
            set(2, 100) = 600
            erect(9) ! IndexOutOfBounds
            lower(0) ! UnsupportedOperation
            type e1
            undo() = 7
            account(17) = 600
            undo() = 6
            account(11) = 60
            undo() = 5
            bay(0, 0) = 1
            undo() = 4
            load(0, 1) = 2
            undo() = 3
            account(5) = 1
            undo() = 2
            account(3) = 1
            account(13) = 4
            undo() = 1
            account(3) = 0
            undo() = 0
            account(5) = 0
            undo() ! IllegalState     // the first two are gone for good
            account(13) = 2
            load(0, 1) = 2
            report(0, false) = 0      // the report stays
            perform() = 1             // the buffer stays
            undo() = 0
            erect(1) = 1
            undo() = 0
            save() = 4
            undo() ! IllegalState
            """);
        Script.run("promise 26, on after taking back", """
            stock(0, 1) = 60
            stock(0, 2) = 1
            stock(0, 3) = 2
            undo() = 2
            undo() = 1
            stock(0, 4) = 1
            undo() = 1
            account(6) = 1
            undo() = 0
            account(6) = 60
            """);
    }

    private static void saveAndRestore() {
        Script.run("promises 27 and 28", """
            restore() ! IllegalState
            start(6) = 4
            set(0, 4) = 3
            set(1, 1) = 2
            set(2, 500) = 600
            stock(3, 9) = 60
            type e5;d5.1*3;l5.1;b5.1;t5.1
            perform() = 5
            save() = 6
            undo() = 4                // saving is no change and keeps them
            undo() = 3
            account(13) = 0
            erect(9) ! IndexOutOfBounds
            lower(2) ! UnsupportedOperation
            type e0
            restore() = 6
            undo() ! IllegalState
            account(15) = 4
            account(16) = 1
            account(17) = 500
            account(9) = 8
            account(13) = 5
            load(5, 1) = 3
            post(5, 1) = 2
            dismantling() = 5
            report(0, true) = 2
            perform() = 1
            undo() = 0
            erect(0) = 1
            start(4) = 6
            restore() = 6             // it stays saved, as it was then
            bay(0, 0) = 0
            bay(5, 0) = 1
            start(5) = 6
            save() = 5
            erect(0) = 1
            restore() = 5             // in place of what was saved before
            account(1) = 0
            account(15) = 3
            account(13) = 0
            """);
    }
}
