/** The sentences of promises 49 to 56, and of the terms for them, that name a boundary: one case for each. */
public final class SheetsEdgesTest {
    private static final String THREE = "sheet(0,0,3)=3 sheet(1,1,3)=3 sheet(2,2,3)=3 ";

    public static void main(String[] args) {
        sheet();
        lose();
        put();
        putBits();
        get();
        copy();
        copyIndex();
        copyOntoItself();
        measure();
        measureUpTo();
        count();
        findings();
        digest();
        Edge.close("SheetsEdgesTest", 49, 56);
    }

    private static void sheet() {
        Edge.of(49, "SHEETS 0 to 3", "sheet(-1,0,5)=BAD sheet(0,0,5)=5 sheet(3,0,5)=5 sheet(4,0,5)=BAD "
            + "sheet(MOST,0,5)=BAD sheet(LEAST,0,5)=BAD lose(1)=NULL lose(2)=NULL");
        Edge.of(49, "FORMS 0 to 2", "sheet(0,-1,5)=BAD sheet(0,3,5)=BAD lose(0)=NULL sheet(0,0,5)=5 sheet(1,1,5)=5 "
            + "sheet(2,2,5)=5 sheet(0,MOST,5)=BAD sheet(0,LEAST,5)=BAD lose(0)=5");
        Edge.of(49, "0 to 60 items", "sheet(0,0,0)=0 sheet(1,1,60)=60 sheet(2,2,61)=BAD lose(2)=NULL lose(0)=0 "
            + "lose(1)=60");
        Edge.of(49, "above 60 is BAD", "sheet(0,0,61)=BAD sheet(0,0,MOST)=BAD lose(0)=NULL");
        Edge.of(49, "SIZE: below 0", "sheet(0,0,-1)=SIZE count(9)=5 sheet(0,0,LEAST)=SIZE lose(0)=NULL");
        Edge.of(49, "BAD goes ahead of SIZE", "sheet(4,0,-1)=BAD sheet(0,3,-1)=BAD sheet(-1,-1,-1)=BAD count(9)=0");
        Edge.of(49, "a refused one leaves the SHEET as it was", "sheet(0,0,5)=5 put(0,0,2,7)=1 sheet(0,0,61)=BAD "
            + "sheet(0,3,4)=BAD sheet(0,0,-1)=SIZE get(0,0,2)=7 lose(0)=5");
        Edge.of(49, "0 at first", "sheet(0,2,60)=60 get(0,2,0)=0 get(0,2,59)=0");
        Edge.of(49, "a new row: 0 again", "sheet(0,2,5)=5 put(0,2,4,7)=1 sheet(0,2,5)=5 get(0,2,4)=0");
        Edge.of(49, "a new row of another FORM and as many items as told", "sheet(0,2,5)=5 put(0,2,1,7)=1 "
            + "sheet(0,0,2)=2 get(0,2,1)=LEAST count(9)=3 get(0,0,1)=0 get(0,0,2)=LEAST count(9)=2");
        Edge.of(49, "a new row where one was LOST", "sheet(0,2,5)=5 put(0,2,1,7)=1 lose(0)=5 sheet(0,2,5)=5 "
            + "get(0,2,1)=0");
        Edge.of(49, "of a SHEET alone", "sheet(0,2,5)=5 put(0,2,1,7)=1 sheet(1,2,5)=5 get(1,2,1)=0 get(0,2,1)=7");
    }

    private static void lose() {
        Edge.of(50, "SHEETS 0 to 3", "sheet(0,0,5)=5 lose(-1)=BAD lose(4)=BAD lose(MOST)=BAD lose(LEAST)=BAD "
            + "count(9)=0 lose(0)=5");
        Edge.of(50, "NULL: it is LOST", "lose(0)=NULL count(9)=1 sheet(0,0,5)=5 lose(0)=5 lose(0)=NULL");
        Edge.of(50, "how many items it had: none", "sheet(3,1,0)=0 lose(3)=0 lose(3)=NULL");
        Edge.of(50, "of it alone", "sheet(0,0,5)=5 sheet(1,0,6)=6 lose(0)=5 lose(1)=6");
    }

    private static void put() {
        Edge.of(51, "SHEETS 0 to 3", THREE + "put(-1,0,0,1)=BAD put(4,0,0,1)=BAD put(MOST,0,0,1)=BAD "
            + "put(LEAST,0,0,1)=BAD count(9)=0");
        Edge.of(51, "FORMS 0 to 2", THREE + "put(0,-1,0,1)=BAD put(0,3,0,1)=BAD put(0,MOST,0,1)=BAD "
            + "put(0,LEAST,0,1)=BAD count(9)=0");
        Edge.of(51, "BAD goes ahead of NULL", "put(0,3,0,1)=BAD put(4,0,0,1)=BAD count(9)=0");
        Edge.of(51, "NULL goes ahead of CAST and INDEX", "put(0,0,-1,1)=NULL put(0,1,99,1)=NULL count(9)=1");
        Edge.of(51, "CAST goes ahead of INDEX", THREE + "put(0,1,3,1)=CAST put(1,2,-1,1)=CAST put(2,0,0,1)=CAST "
            + "count(9)=3");
        Edge.of(51, "INDEX: from 0 to the last item", THREE + "put(0,0,-1,1)=INDEX put(0,0,0,1)=1 put(0,0,2,1)=1 "
            + "put(0,0,3,1)=INDEX put(0,0,MOST,1)=INDEX put(0,0,LEAST,1)=INDEX count(9)=2");
        Edge.of(51, "INDEX: of no items", "sheet(0,0,0)=0 put(0,0,0,1)=INDEX");
        Edge.of(51, "INDEX: of 60", "sheet(0,0,60)=60 put(0,0,59,1)=1 put(0,0,60,1)=INDEX get(0,0,59)=1");
        Edge.of(51, "an item alone", THREE + "put(0,0,1,7)=1 get(0,0,0)=0 get(0,0,1)=7 get(0,0,2)=0 get(1,1,1)=0");
    }

    private static void putBits() {
        Edge.of(51, "the lowest bits of a byte", THREE + "put(0,0,0,127)=1 get(0,0,0)=127 put(0,0,0,128)=1 "
            + "get(0,0,0)=-128 put(0,0,0,255)=1 get(0,0,0)=-1 put(0,0,0,256)=1 get(0,0,0)=0 put(0,0,0,-128)=1 "
            + "get(0,0,0)=-128 put(0,0,0,-129)=1 get(0,0,0)=127 put(0,0,0,MOST)=1 get(0,0,0)=-1 put(0,0,0,LEAST)=1 "
            + "get(0,0,0)=0");
        Edge.of(51, "the lowest bits of a short", THREE + "put(1,1,0,32767)=1 get(1,1,0)=32767 put(1,1,0,32768)=1 "
            + "get(1,1,0)=-32768 put(1,1,0,65535)=1 get(1,1,0)=-1 put(1,1,0,65536)=1 get(1,1,0)=0 put(1,1,0,-32769)=1 "
            + "get(1,1,0)=32767 put(1,1,0,MOST)=1 get(1,1,0)=-1 put(1,1,0,LEAST)=1 get(1,1,0)=0");
        Edge.of(51, "an int has all of them", THREE + "put(2,2,0,MOST)=1 get(2,2,0)=MOST put(2,2,0,LEAST)=1 "
            + "get(2,2,0)=LEAST count(9)=0 put(2,2,0,65536)=1 get(2,2,0)=65536");
    }

    private static void get() {
        Edge.of(52, "SHEETS 0 to 3, and BAD is no FINDING", THREE + "get(-1,0,0)=LEAST get(4,0,0)=LEAST "
            + "get(MOST,0,0)=LEAST count(9)=0");
        Edge.of(52, "FORMS 0 to 2, and BAD is no FINDING", THREE + "get(0,-1,0)=LEAST get(0,3,0)=LEAST "
            + "get(0,MOST,0)=LEAST count(9)=0");
        Edge.of(52, "NULL goes ahead of CAST and INDEX", "get(0,0,0)=LEAST count(9)=1 sheet(0,0,1)=1 get(0,1,5)=LEAST "
            + "count(9)=3 get(1,1,5)=LEAST count(9)=1");
        Edge.of(52, "BAD goes ahead of NULL", "get(0,3,0)=LEAST count(9)=0");
        Edge.of(52, "CAST goes ahead of INDEX", THREE + "get(0,1,3)=LEAST count(9)=3");
        Edge.of(52, "INDEX: from 0 to the last item", THREE + "get(0,0,0)=0 get(0,0,2)=0 count(9)=0 get(0,0,3)=LEAST "
            + "count(9)=2");
        Edge.of(52, "INDEX: below 0", THREE + "get(0,0,-1)=LEAST count(9)=2 get(0,0,LEAST)=LEAST get(0,0,MOST)=LEAST");
        Edge.of(52, "INDEX: of no items", "sheet(0,0,0)=0 get(0,0,0)=LEAST count(9)=2");
        Edge.of(52, "CAST: each FORM as another", THREE + "get(0,2,0)=LEAST count(9)=3 get(1,0,0)=LEAST "
            + "get(1,2,0)=LEAST get(2,0,0)=LEAST get(2,1,0)=LEAST get(0,0,0)=0 get(1,1,0)=0 get(2,2,0)=0 count(9)=3");
    }

    private static void copy() {
        String two = "sheet(0,2,4)=4 sheet(1,2,3)=3 put(0,2,0,10)=1 put(0,2,1,11)=1 put(0,2,2,12)=1 put(0,2,3,13)=1 ";
        Edge.of(53, "BAD: the SHEETS", two + "copy(-1,0,1,0,1)=BAD copy(4,0,1,0,1)=BAD copy(0,0,-1,0,1)=BAD "
            + "copy(0,0,4,0,1)=BAD copy(MOST,0,1,0,1)=BAD copy(0,0,LEAST,0,1)=BAD count(9)=0");
        Edge.of(53, "BAD goes ahead of NULL", "copy(0,0,4,0,1)=BAD copy(-1,0,0,0,1)=BAD count(9)=0");
        Edge.of(53, "NULL: s", "sheet(1,2,3)=3 copy(0,0,1,0,1)=NULL count(9)=1");
        Edge.of(53, "NULL: t", "sheet(0,2,3)=3 copy(0,0,1,0,1)=NULL count(9)=1");
        Edge.of(53, "NULL goes ahead of STORE and INDEX", "sheet(0,2,3)=3 copy(0,-1,1,9,-1)=NULL copy(1,9,0,0,9)=NULL");
        Edge.of(53, "STORE: unlike FORMS", THREE + "copy(0,0,1,0,1)=STORE copy(1,0,0,0,1)=STORE copy(0,0,2,0,1)=STORE "
            + "copy(2,0,0,0,1)=STORE copy(1,0,2,0,1)=STORE copy(2,0,1,0,1)=STORE count(9)=4");
        Edge.of(53, "STORE goes ahead of INDEX", THREE + "copy(0,9,1,0,1)=STORE copy(0,0,1,0,-1)=STORE");
        Edge.of(53, "STORE also of no items", THREE + "copy(0,0,1,0,0)=STORE");
        Edge.of(53, "n items from i on to j on, and no more", two + "copy(0,1,1,0,2)=1 get(1,2,0)=11 get(1,2,1)=12 "
            + "get(1,2,2)=0 get(0,2,1)=11");
        Edge.of(53, "behind j", two + "copy(0,0,1,1,2)=1 get(1,2,0)=0 get(1,2,1)=10 get(1,2,2)=11");
        Edge.of(53, "later changes of s are not t's", two + "copy(0,0,1,0,3)=1 put(0,2,0,99)=1 get(1,2,0)=10");
    }

    private static void copyIndex() {
        String two = "sheet(0,2,4)=4 sheet(1,2,3)=3 put(0,2,3,13)=1 ";
        Edge.of(53, "INDEX: i below 0", two + "copy(0,-1,1,0,1)=INDEX copy(0,LEAST,1,0,1)=INDEX count(9)=2");
        Edge.of(53, "INDEX: j below 0", two + "copy(0,0,1,-1,1)=INDEX copy(0,0,1,LEAST,1)=INDEX count(9)=2");
        Edge.of(53, "INDEX: n below 0", two + "copy(0,0,1,0,-1)=INDEX copy(0,0,1,0,LEAST)=INDEX "
            + "copy(0,2,1,2,-1)=INDEX count(9)=2");
        Edge.of(53, "INDEX: not so many in s", two + "copy(0,2,1,0,2)=1 copy(0,2,1,0,3)=INDEX copy(0,4,1,0,1)=INDEX "
            + "get(1,2,1)=13 get(1,2,2)=0");
        Edge.of(53, "INDEX: not so many in t", two + "copy(0,0,1,0,3)=1 copy(0,0,1,0,4)=INDEX copy(0,0,1,3,1)=INDEX "
            + "copy(0,3,1,2,1)=1 get(1,2,2)=13");
        Edge.of(53, "INDEX: sums that wrap", two + "copy(0,1,1,0,MOST)=INDEX copy(0,MOST,1,0,1)=INDEX "
            + "copy(0,0,1,MOST,1)=INDEX copy(0,MOST,1,MOST,MOST)=INDEX");
        Edge.of(53, "none behind the last item", two + "copy(0,4,1,3,0)=1 copy(0,0,1,0,0)=1 get(1,2,0)=0");
        Edge.of(53, "INDEX: none, beyond that", two + "copy(0,5,1,0,0)=INDEX copy(0,0,1,4,0)=INDEX "
            + "copy(0,-1,1,0,0)=INDEX copy(0,0,1,-1,0)=INDEX");
        Edge.of(53, "of SHEETS of no items", "sheet(0,1,0)=0 sheet(1,1,0)=0 copy(0,0,1,0,0)=1 copy(0,0,1,0,1)=INDEX");
        Edge.of(53, "all 60", "sheet(0,1,60)=60 sheet(1,1,60)=60 put(0,1,59,7)=1 put(0,1,0,6)=1 copy(0,0,1,0,60)=1 "
            + "get(1,1,59)=7 get(1,1,0)=6 copy(0,0,1,0,61)=INDEX");
    }

    private static void copyOntoItself() {
        String row = "sheet(0,0,4)=4 put(0,0,0,1)=1 put(0,0,1,2)=1 put(0,0,2,3)=1 put(0,0,3,4)=1 ";
        Edge.of(53, "perhaps s, as they were: up", row + "copy(0,0,0,1,3)=1 get(0,0,0)=1 get(0,0,1)=1 get(0,0,2)=2 "
            + "get(0,0,3)=3");
        Edge.of(53, "perhaps s, as they were: down", row + "copy(0,1,0,0,3)=1 get(0,0,0)=2 get(0,0,1)=3 get(0,0,2)=4 "
            + "get(0,0,3)=4");
        Edge.of(53, "perhaps s, to the same place", row + "copy(0,0,0,0,4)=1 get(0,0,0)=1 get(0,0,3)=4");
        Edge.of(53, "perhaps s: INDEX", row + "copy(0,0,0,1,4)=INDEX copy(0,1,0,0,4)=INDEX get(0,0,1)=2");
        Edge.of(53, "perhaps s: NULL", "copy(0,0,0,0,0)=NULL");
    }

    /** A small HOUSE in a SHEET of ints, from an item on. */
    private static String house(int form, int at) {
        int[] values = {0, 0, 1, 1, 9, 9, 5};
        StringBuilder calls = new StringBuilder();
        for (int i = 0; i < 7; i++) {
            calls.append("put(0,").append(form).append(',').append(at + i).append(',').append(values[i]).append(")=1 ");
        }
        return calls.toString();
    }

    private static void measure() {
        Edge.of(54, "SHEETS 0 to 3", "measure(-1)=BAD measure(4)=BAD measure(MOST)=BAD measure(LEAST)=BAD count(9)=0");
        Edge.of(54, "NULL: it is LOST", "measure(0)=NULL measure(3)=NULL count(9)=1 sheet(0,0,9)=9 lose(0)=9 "
            + "measure(0)=NULL");
        Edge.of(54, "of no items", "sheet(0,0,0)=0 measure(0)=0 count(0)=0");
        Edge.of(54, "as many as are whole: 6 items are none", "sheet(0,2,6)=6 put(0,2,2,1)=1 put(0,2,3,1)=1 "
            + "put(0,2,4,9)=1 put(0,2,5,9)=1 measure(0)=0 count(0)=0");
        Edge.of(54, "as many as are whole: 7 items are one", "sheet(0,2,7)=7 " + house(2, 0) + "measure(0)=1 "
            + "count(0)=1");
        Edge.of(54, "as many as are whole: 13 items are one", "sheet(0,2,13)=13 " + house(2, 0) + "put(0,2,9,1)=1 "
            + "put(0,2,10,1)=1 put(0,2,11,1)=1 put(0,2,12,1)=1 measure(0)=1 count(0)=1");
        Edge.of(54, "as many as are whole: 14 items are two", "sheet(0,2,14)=14 "
            + "" + house(2, 0) + house(2, 7) + "measure(0)=2 count(0)=2");
        Edge.of(54, "of bytes", "sheet(0,0,7)=7 " + house(0, 0) + "measure(0)=1 cut(0,0)=5");
        Edge.of(54, "of shorts", "sheet(0,1,7)=7 " + house(1, 0) + "put(0,1,0,-500)=1 put(0,1,2,500)=1 measure(0)=1 "
            + "cut(0,0)=5");
        Edge.of(54, "x0 y0 x1 y1 TOP E OUT", "sheet(0,2,7)=7 put(0,2,0,-9)=1 put(0,2,1,-8)=1 put(0,2,2,-3)=1 "
            + "put(0,2,3,-5)=1 put(0,2,4,8)=1 put(0,2,5,7)=1 put(0,2,6,2)=1 measure(0)=1 car(2,2,1,0)=0 "
            + "storey(0,7,1,1)=1 stand(0,-6,-4,0)=1 stand(0,-6,-5,0)=NOT stand(0,-10,-6,0)=1 stand(0,-2,-6,0)=1 "
            + "stand(0,-6,-9,0)=1 stand(0,-6,-8,0)=NOT storey(0,8,1,1)=2 meets(0,10)=2000 stand(0,0,-6,0)=1 "
            + "stand(0,-1,-6,0)=NOT cut(0,2)=2");
    }

    private static void measureUpTo() {
        String four = "sheet(0,2,28)=28 " + house(2, 0) + house(2, 7) + house(2, 14) + house(2, 21);
        Edge.of(54, "up to the first that may not be: OUT", four + "put(0,2,20,10)=1 measure(0)=2 count(0)=2");
        Edge.of(54, "up to the first that may not be: x1", four + "put(0,2,16,0)=1 measure(0)=2 count(0)=2");
        Edge.of(54, "up to the first that may not be: y1", four + "put(0,2,17,501)=1 measure(0)=2 count(0)=2");
        Edge.of(54, "up to the first that may not be: TOP", four + "put(0,2,18,0)=1 measure(0)=2 count(0)=2");
        Edge.of(54, "up to the first that may not be: E", four + "put(0,2,19,100)=1 measure(0)=2 count(0)=2");
        Edge.of(54, "the first of all may not be", four + "put(0,2,4,0)=1 measure(0)=0 count(0)=0 count(9)=0");
        Edge.of(54, "for which there is no room", four + "17*house(0,0,1,1,1,1,1)={i} measure(0)=3 count(0)=20 "
            + "cut(19,0)=5 cut(16,0)=1 measure(0)=0");
        Edge.of(54, "no room for any: 0", four + "20*house(0,0,1,1,1,1,1)={i} measure(0)=0 count(0)=20 count(9)=0");
        Edge.of(54, "they come behind those that there are", "house(5,5,6,6,1,1,1)=0 sheet(0,2,7)=7 "
            + "" + house(2, 0) + "measure(0)=1 cut(0,0)=1 cut(1,0)=5 measure(0)=1 count(0)=3");
        Edge.of(54, "the SHEET stays as it is", "sheet(0,2,7)=7 " + house(2, 0) + "measure(0)=1 get(0,2,6)=5 "
            + "lose(0)=7");
    }

    private static void count() {
        Edge.of(55, "what is 0 to 12", "count(-1)=BAD count(13)=BAD count(LEAST)=BAD count(MOST)=BAD count(0)=0 "
            + "count(12)=4");
        Edge.of(55, "each its own", "house(0,0,1,1,1,1,1)=0 2*kerb(0,0,1,1)={i} 3*wire(0,0,1,1,1)={i} "
            + "4*slope(0,0,1,1,1,1,true)={i} 3*car(2,2,1,0)={i} stand(0,0,0,0)=1 stand(1,0,0,0)=1 4*enter(0,1,0)={i} "
            + "5*task(1,1)={i} 6*type(100)={i+1} 4*team(1)={i} 3*stage(1)={i} feet(19)=4 sheet(0,0,-1)=SIZE "
            + "count(0)=1 count(1)=2 count(2)=3 count(3)=4 count(4)=3 count(5)=2 count(6)=4 count(7)=5 count(8)=6 "
            + "count(9)=5 count(10)=4 count(11)=3 count(12)=19");
        Edge.of(55, "WIRES that hang", "2*wire(0,0,1,1,1)={i} down(0,true)=1 count(2)=1 down(1,true)=1 count(2)=0 "
            + "down(0,false)=1 count(2)=1");
        Edge.of(55, "CARS that STAND", "2*car(2,2,1,0)={i} count(5)=0 stand(1,0,0,0)=1 count(5)=1 count(4)=2 "
            + "leave(1)=1 count(5)=0");
    }

    private static void findings() {
        Edge.of(55, "0 before any FINDING", "sheet(0,0,61)=BAD lose(4)=BAD count(9)=0");
        Edge.of(55, "1 NULL", "lose(0)=NULL count(9)=1");
        Edge.of(55, "2 INDEX", "sheet(0,0,1)=1 put(0,0,1,0)=INDEX count(9)=2");
        Edge.of(55, "3 CAST", "sheet(0,0,1)=1 put(0,1,0,0)=CAST count(9)=3");
        Edge.of(55, "4 STORE", "sheet(0,0,1)=1 sheet(1,1,1)=1 copy(0,0,1,0,0)=STORE count(9)=4");
        Edge.of(55, "5 SIZE", "sheet(0,0,-1)=SIZE count(9)=5");
        Edge.of(55, "the latest FINDING: what is done or BAD behind it leaves it", "sheet(0,0,-1)=SIZE lose(0)=NULL "
            + "count(9)=1 sheet(0,0,1)=1 put(0,0,0,5)=1 get(0,0,0)=5 lose(9)=BAD lose(0)=1 count(9)=1 count(13)=BAD "
            + "count(9)=1");
    }

    private static long h;

    private static void add(long... values) {
        for (long v : values) {
            h = 31 * h + v;
        }
    }

    private static void digest() {
        h = 17;
        add(0, 0, 0, 0, 0, 0, 0, 0, 0, 0, 0, 4, 0);
        Due.is("56: count() 0 to 8, 10 to 12, and roster() of a new object", new FloatTowers().digest(), h);
        FloatTowers x = new FloatTowers();
        x.sheet(0, 0, -1);
        Due.is("56: without count(9)", x.digest(), h);
        x.car(3, 4, 5, 6);
        h = 17;
        add(0, 0, 0, 0, 1, 0, 0, 0, 0, 0, 0, 4, 3, 4, 5, 6, 0);
        add(Integer.MIN_VALUE, Integer.MIN_VALUE, Integer.MIN_VALUE, 0, 0, 0);
        Due.is("56: a CAR that STANDS nowhere has no pull() and need()", x.digest(), h);
        x.stand(0, 1, -2, 18);
        x.rope(0, 0, 300, 1, 0);
        x.stage(1);
        x.enter(0, 1, 0);
        x.task(200, 0);
        h = 17;
        add(0, 0, 0, 0, 1, 1, 1, 1, 0, 0, 1, 4, 3, 4, 5, 6, 0, 65, -130, 18, 0, 1, 900, 10, 20, 200, -3);
        Due.is("56: a roster() that is NOT counts -3", x.digest(), h);
        Edge.of(56, "it changes nothing", "car(2,2,1,0)=0 stand(0,0,0,0)=1 team(9)=0 stage(9)=0 count(9)=0 roster()=1");
    }
}
