import java.lang.reflect.Array;
import java.lang.reflect.Field;
import java.util.Arrays;

/** Promise 22 from inside: no call can make the accounts disagree, so the test spoils them itself. */
public final class AuditTest {
    public static void main(String[] args) throws Exception {
        Check.yes("as it is", sorter().audit());
        for (String tally : new String[] {"droppedCount", "roundCount", "parcelCount"}) {
            ParcelSorter x = sorter();
            Object state = part(x, "now");
            add(state, tally, -1);
            Check.no(tally, x.audit());
            add(state, tally, 1);
            Check.yes(tally + " mended", x.audit());
        }
        for (int i = 0; i < 4; i++) {
            ParcelSorter x = sorter();
            int[] counts = (int[]) part(part(x, "now"), "verdictCounts");
            counts[i]++;
            Check.no("verdict " + i, x.audit());
        }
        spoil("chutes", 0, "drops", 1);
        spoil("chutes", 1, "drops", 1);
        spoil("stations", 0, "waitingCount", 1);
        spoil("parcels", 0, "whereabouts", -1);
        spoil("parcels", 0, "whereabouts", 1);
        spoil("parcels", 0, "spot", 1);
        spoil("parcels", 0, "verdict", 1);
        spoil("parcels", 0, "scans", 1);
        spoil("parcels", 1, "scans", -1);
        spoil("parcels", 1, "whereabouts", 1);
        spoil("parcels", 1, "whereabouts", 7);
        spoil("parcels", 2, "whereabouts", 1);
        loseTheCarriedParcel();
        haveAParcelNowhere();
        Check.end();
    }

    /** Parcel 0 was dropped after a round, parcel 1 is on the loop after a round, parcel 2 waits. */
    private static ParcelSorter sorter() {
        ParcelSorter x = new ParcelSorter();
        x.addStation(11);
        x.addChute(3, 5, 0, 50, 9, 9);
        x.addChute(5, 5, 0, 50, 9, 9);
        Check.addPlan(x, "@14:0-49=0;50-99=1x1*9");
        x.arrive(0, 1, 1, 0);
        x.arrive(0, 50, 1, 0);
        x.run(17);
        x.arrive(0, 2, 1, 0);
        return x;
    }

    private static void loseTheCarriedParcel() throws Exception {
        ParcelSorter x = sorter();
        Arrays.fill((int[]) part(part(x, "now"), "carriers"), -1);
        Check.no("no carrier has it", x.audit());
    }

    /** It is counted as a parcel, but is neither in a station nor on the loop nor dropped. */
    private static void haveAParcelNowhere() throws Exception {
        ParcelSorter x = sorter();
        Object state = part(x, "now");
        Object parcel = Array.get(part(state, "parcels"), 3);
        add(parcel, "whereabouts", 9);
        add(parcel, "verdict", -1);
        add(state, "parcelCount", 1);
        Check.no("a parcel that is nowhere", x.audit());
    }

    private static void spoil(String row, int i, String name, int by) throws Exception {
        ParcelSorter x = sorter();
        add(Array.get(part(part(x, "now"), row), i), name, by);
        Check.no(row + " " + i + " " + name + " " + by, x.audit());
    }

    private static Object part(Object of, String name) throws Exception {
        Field field = of.getClass().getDeclaredField(name);
        field.setAccessible(true);
        return field.get(of);
    }

    private static void add(Object to, String name, int by) throws Exception {
        Field field = to.getClass().getDeclaredField(name);
        field.setAccessible(true);
        field.setInt(to, field.getInt(to) + by);
    }
}
