/** Promises 1 to 4: new objects, texts. */
public final class TextTest {
    public static void main(String[] args) {
        House house = new House();
        TurnHouse x = house.x;
        House.due("count(2)", x.count(2), 0);
        House.due("feed", x.feed(1, 2, 3, 4, 5), 20);
        House.due("end(21)", x.end(21), TurnHouse.BAD);
        House.due("end(-1)", x.end(-1), TurnHouse.BAD);
        House.due("end(0)", x.end(0), 0);
        House.due("end(0)", x.end(0), TurnHouse.BAD);
        House.finish();
    }
}
