/** The calls that README.md shows, with the answers that it tells. */
public final class ReadmeTest extends Checks {
    private static void aRow(PatchHouse house) {
        due("feed", house.feed(0x01020000, 0x00050C00, 0x04020000, 0, 0), 20);
        due("end", house.end(10), 10);
        due("patch", house.patch(0), 0);
        due("run", house.run(0, 100), 0);
        due("slot", house.slot(0, 1), 5);
        due("look(2)", house.look(2), 97);
        due("look(3)", house.look(3), 6);
    }

    private static void aFaultThatIsTaken(PatchHouse house) {
        due("feed", house.feed(0x10000000, 0x4D000000, 0, 0, 0), 20);
        due("load", house.load(3), 0);
        due("feed", house.feed(0x20400000, 0x02030022, 0x03020506, 0, 0), 20);
        due("end", house.end(12), 12);
        due("patch", house.patch(1), 0);
        due("run", house.run(1, 100), 0);
        due("number(5)", house.number(5), 77);
        due("number(7)", house.number(7), 7);
        due("save", house.save(3), 5);
        due("out", house.out(4), 77);
    }

    public static void main(String[] args) {
        PatchHouse house = new PatchHouse();
        aRow(house);
        aFaultThatIsTaken(house);
        Kit.finish();
    }
}
