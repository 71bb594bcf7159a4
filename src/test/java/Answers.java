/** The answers that the document names, and shafts that several tests tell. */
interface Answers {
    int NONE = -1000000, BAD = -1000001, STATE = -1000002, FULL = -1000003;
    int NULL = -1000011, PLACE = -1000012, KIND = -1000013;
    int SIZE = -1000014, STORE = -1000015, OVER = -1000016;
    int FAULT = -1000100;
    int LEAST = Integer.MIN_VALUE, MOST = Integer.MAX_VALUE;

    int PLAIN = 1, GEARED = 2, WHEEL = 3, TIED = 4, SLIPPING = 5;
    int J = 0, K = 1, N = 2;

    /** Two plain discs of weight 1, a spring of 10: they swing at 0 and 20 (twice the spring). */
    String PAIR = "m1,0;p1,10,0;p1,0,0;";
    /** Two plain discs of weight 2: they swing at 0 and at the spring, so that BOX 1 is K. */
    String TWOS = "m0,0;p2,0,0;p2,0,0;";
    /** Two tied discs: they swing at 4 and 12. */
    String TIES = "m0,9;t1,4,4;t1,4,4;";
    /** Three plain discs of weight 1, springs of 1: they swing at 0, 1 and 3. */
    String CHAIN = "m0,1;p1,1,0;p1,1,0;p1,0,0;";
    /** One disc of each kind, and a sixth. */
    String EACH = "m1,5;p2,30,0;g1,20,7;w1,10,3;t2,8,5;s1,7,2;p1,9,9;";
    /** So heavy that the sixth determinant is beyond a long at every mark. */
    String HEAVY = "m20,0;g5,40,0;g5,40,0;g5,40,0;g5,40,0;g5,40,0;g5,40,0;";
}
