/** Promises 16 to 18: launches by winch and tow. */
public final class LaunchTest {
    public static void main(String[] args) {
        atFirst();
        theField();
        winches();
        tows();
        limits();
        Due.close();
    }

    private static void told(SoarHouse house, int launch, int begin, int free, int plane) {
        Due.is("begin of " + launch, house.launched(launch, 0), begin);
        Due.is("free of " + launch, house.launched(launch, 1), free);
        Due.is("plane of " + launch, house.launched(launch, 2), plane);
    }

    private static void atFirst() {
        SoarHouse house = new SoarHouse();
        Due.is("winch", house.launch(false, 4), 0);
        Due.is("winch", house.launch(false, 4), 1);
        Due.is("tow", house.launch(true, 4), 2);
        Due.is("tow", house.launch(true, 4), 3);
        told(house, 0, 4, 5, 0);
        told(house, 1, 5, 6, 0);
        told(house, 2, 4, 6, 0);
        told(house, 3, 6, 8, 0);
        Due.is("what 3", house.launched(0, 3), -1);
        Due.is("what -1", house.launched(0, -1), -1);
        told(house, 4, -1, -1, -1);
        told(house, -1, -1, -1, -1);
    }

    private static void theField() {
        SoarHouse house = new SoarHouse();
        house.launch(false, 0);
        int[][] wrong = {{0, 1, 1}, {10, 1, 1}, {1, 0, 1}, {1, 5, 1}, {1, 1, 0}, {1, 1, 10}, {-1, -1, -1}};
        for (int[] w : wrong) {
            Due.is("field " + w[0] + w[1] + w[2], house.field(w[0], w[1], w[2]), false);
        }
        Due.is("launches stay", house.about(7), 1);
        Due.is("the winch stays", house.launch(false, 0), 1);
        told(house, 1, 1, 2, 0);
        Due.is("field", house.field(9, 4, 9), true);
        Due.is("launches are none", house.about(7), 0);
        Due.is("the winch is free again", house.launch(false, 0), 0);
        told(house, 0, 0, 9, 0);
    }

    private static void winches() {
        SoarHouse house = new SoarHouse();
        house.field(9, 1, 1);
        house.launch(false, 20);
        house.launch(false, 0);
        house.launch(false, 35);
        house.launch(false, 0);
        house.launch(true, 0);
        told(house, 0, 20, 29, 0);
        told(house, 1, 29, 38, 0);
        told(house, 2, -1, -1, -1);
        told(house, 3, -1, -1, -1);
        told(house, 4, 0, 1, 0);
    }

    private static void tows() {
        SoarHouse house = new SoarHouse();
        house.field(1, 3, 5);
        for (int i = 0; i < 5; i++) {
            house.launch(true, i);
        }
        house.launch(true, 30);
        told(house, 0, 0, 5, 0);
        told(house, 1, 1, 6, 1);
        told(house, 2, 2, 7, 2);
        told(house, 3, 5, 10, 0);
        told(house, 4, 6, 11, 1);
        told(house, 5, 30, 35, 2);
        house.field(1, 2, 9);
        house.launch(true, 35);
        house.launch(true, 34);
        house.launch(true, 3);
        told(house, 0, 35, 44, 0);
        told(house, 1, 34, 43, 1);
        told(house, 2, -1, -1, -1);
    }

    private static void limits() {
        SoarHouse house = new SoarHouse();
        Due.is("step -1", house.launch(true, -1), -1);
        Due.is("step 36", house.launch(false, 36), -1);
        for (int i = 0; i < 30; i++) {
            Due.is("launch " + i, house.launch(false, 35), i);
        }
        Due.is("a 31st", house.launch(true, 0), -1);
        Due.is("thirty", house.about(7), 30);
        told(house, 0, 35, 36, 0);
        told(house, 1, -1, -1, -1);
        told(house, 29, -1, -1, -1);
    }
}
