import java.util.function.Supplier;

/** Sorters in states that the tests know, made anew each time. */
final class Scene {
    static final Supplier<ParcelSorter> NEW = ParcelSorter::new;
    static final Supplier<ParcelSorter> BUSY = Scene::busy;
    static final Supplier<ParcelSorter> FULL = Scene::full;
    static final Supplier<ParcelSorter> ALL_DROPPED = Scene::allDropped;

    /** A plan of 80 signs, which are the most that the input takes. */
    static final String LONGEST =
        "@0000:0000-0099=0,1,2;0000-0099=0,1,2;0000-0099=0,1,2;0000-0099=0,1,2;1-99=0x0*1";

    /**
     * Twelve places, station 0 at the last one, and chutes that take anything. A parcel that arrives at time t, while
     * no other one waits, is put on at t + 1, scanned at t + 2, and at place p at t + 2 + p.
     */
    static ParcelSorter line(int... chutePlaces) {
        ParcelSorter x = new ParcelSorter();
        x.addStation(11);
        for (int place : chutePlaces) {
            x.addChute(place, 20, 0, 50, 9, 0);
        }
        return x;
    }

    /** As a line, with one chute at place 3, where a parcel is five ticks after it arrived. */
    static ParcelSorter lineTo(int capacity, int gap, int limit, int clearing, int swap) {
        ParcelSorter x = new ParcelSorter();
        x.addStation(11);
        x.addChute(3, capacity, gap, limit, clearing, swap);
        Check.addPlan(x, "@0:0-99=0x0*9");
        return x;
    }

    static ParcelSorter oneWaits() {
        ParcelSorter x = line();
        arrive(x, 1);
        return x;
    }

    /** Parcels of weight 1, in good condition, one behind the other. */
    static void arrive(ParcelSorter x, int... destinations) {
        for (int destination : destinations) {
            x.arrive(0, destination, 1, 0);
        }
    }

    static ParcelSorter withChutes(int chutes) {
        ParcelSorter x = new ParcelSorter();
        x.build(30);
        for (int i = 0; i < chutes; i++) {
            x.addChute(10 + i, 5, 0, 50, 1, 0);
        }
        return x;
    }

    static ParcelSorter withOneChute() {
        return withChutes(1);
    }

    /** Their first ticks are 1 to 5, and the rule of each is for destination 1 alone. */
    static ParcelSorter withFivePlans() {
        ParcelSorter x = withChutes(1);
        for (int tick = 1; tick <= 5; tick++) {
            Check.addPlan(x, "@" + tick + ":1=0x0*8");
        }
        return x;
    }

    /**
     * In the midst of everything: parcels that wait, are carried and were dropped, a jam, a swap, a pass, spoilt
     * chutes, a chute that is closed, eight changes and more, a snapshot, a paper, and an input that a plan goes on from.
     */
    private static ParcelSorter busy() {
        ParcelSorter x = new ParcelSorter();
        beginMidst(x);
        x.saveSnapshot();
        goOnInMidst(x);
        x.write(1);
        Check.feed(x, "@77:5-6=1;8");
        return x;
    }

    /** As busy, but without a snapshot, a paper and an input. */
    static ParcelSorter midst() {
        ParcelSorter x = new ParcelSorter();
        beginMidst(x);
        goOnInMidst(x);
        return x;
    }

    private static void beginMidst(ParcelSorter x) {
        x.build(14);
        x.addStation(12);
        x.addStation(10);
        x.addChute(2, 2, 0, 20, 7, 9);
        x.addChute(4, 9, 2, 11, 9, 1);
        x.addChute(6, 2, 1, 50, 9, 0);
        x.addChute(8, 1, 0, 50, 3, 9);
        Check.addPlan(x, "@0:0-29=0;30-59=1;60-89=2,1x3*2");
        x.arrive(0, 37, 10, 0);
        x.run(1);
    }

    private static void goOnInMidst(ParcelSorter x) {
        Check.addPlan(x, "@20:0-49=2;50-99=0,1x1");
        for (int i = 0; i < 10; i++) {
            x.arrive(0, 37 * i % 100, 7 * i % 23 + 1, i % 4 == 3 ? 1 : 0);
            x.arrive(1, 61 * i % 100, 11 * i % 41 + 1, i % 5 == 4 ? 2 : 0);
        }
        x.run(2);
        x.setClosed(2, true);
        x.run(13);
        x.setClosed(3, true);
        x.setClosed(2, false);
        x.arrive(1, 61, 4, 1);
    }

    /** Puts something else into each place that a state has: stations, chutes, plans, parcels, carriers, ledger. */
    static void useAnew(ParcelSorter x) {
        x.build(30);
        for (int i = 0; i < 3; i++) {
            x.addStation(29 - i);
        }
        for (int i = 0; i < 8; i++) {
            x.addChute(16 + i, 1, 5, i < 4 ? 50 : 1, 8, 8);
        }
        Check.addPlan(x, "@1:9=0,1;8=2,3;7=6x7*0");
        for (int i = 0; i < 60; i++) {
            x.arrive(i % 3, 9 - i % 2, 50, i % 3);
            if (i == 29) {
                x.run(45);
            }
        }
        x.run(100);
        x.run(3);
        for (int i = 0; i < 8; i++) {
            x.setClosed(i, true);
        }
    }

    /** No room for anything more: stations, chutes, plans, parcels, waiting parcels, carriers, signs of the input. */
    private static ParcelSorter full() {
        ParcelSorter x = new ParcelSorter();
        x.build(30);
        for (int place = 1; place <= 8; place++) {
            x.addChute(place, 1, 0, 50, 1, 0);
        }
        x.addStation(9);
        x.addStation(19);
        x.addStation(29);
        for (int i = 5; i < 10; i++) {
            Check.addPlan(x, "@999" + i + ":0=0x0");
        }
        for (int i = 0; i < 30; i++) {
            x.arrive(i % 3, i, 1, 0);
        }
        x.run(10);
        for (int i = 0; i < 30; i++) {
            x.arrive(i % 3, i, 1, 0);
        }
        Check.feed(x, LONGEST);
        return x;
    }

    /** 60 parcels that were all dropped. */
    private static ParcelSorter allDropped() {
        ParcelSorter x = new ParcelSorter();
        x.addStation(11);
        x.addStation(10);
        x.addStation(9);
        x.addChute(5, 20, 0, 50, 1, 0);
        Check.addPlan(x, "@0:0-99=0x0");
        for (int i = 0; i < 60; i++) {
            x.arrive(i % 3, i % 7, 1, 0);
            if (i % 30 == 29) {
                x.run(100);
            }
        }
        return x;
    }
}
