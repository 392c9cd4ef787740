import java.util.ArrayList;
import java.util.HashMap;
import java.util.HashSet;
import java.util.List;
import java.util.Map;
import java.util.Set;

/**
 * Promise 5, "where the first token begins with which no text of the language begins so": behind each beginning of some
 * texts each token of the language is tried, and a chart of the document's grammar tells whether it may stand there.
 */
public final class EveryTokenTest {
    /** The document's grammar, but for what is OPEN and the DEPTH; what stands before a : is the name of a rule. */
    private static final String[] GRAMMAR = {
        "text : | text item",
        "item : enum { constant constants } ; | type NAME ( parameters ) block | kind variables ;",
        "constant : NAME | NAME = c",
        "constants : | constants , constant",
        "type : int | char | void",
        "kind : int | char",
        "parameters : | void | parameter more-parameters",
        "more-parameters : | more-parameters , parameter",
        "parameter : kind NAME | kind NAME [ ]",
        "variables : variable | variables , variable",
        "variable : NAME | NAME = e | NAME [ c ] | NAME [ c ] = { c numbers } | NAME [ c ] = STRING",
        "numbers : | numbers , c",
        "block : { statements }",
        "statements : | statements s",
        "s : block | ; | e ; | kind variables ; | if ( e ) s | if ( e ) s else s | while ( e ) s | do s while ( e ) ;"
            + " | for ( first maybe ; maybe ) s | switch ( e ) { cases } | break ; | continue ; | return maybe ;",
        "first : ; | e ; | kind variables ;",
        "maybe : | e",
        "cases : | label behind-label",
        "behind-label : | behind-label label | behind-label s",
        "label : case c COLON | default COLON",
        "e : c | u a e",
        "a : = | += | -= | *= | /= | %= | <<= | >>= | &= | OR= | ^=",
        "c : d | d ? e COLON c",
        "d : d2 | d OROR d2",
        "d2 : d3 | d2 && d3",
        "d3 : d4 | d3 OR d4",
        "d4 : d5 | d4 ^ d5",
        "d5 : d6 | d5 & d6",
        "d6 : d7 | d6 == d7 | d6 != d7",
        "d7 : d8 | d7 < d8 | d7 > d8 | d7 <= d8 | d7 >= d8",
        "d8 : d9 | d8 << d9 | d8 >> d9",
        "d9 : d10 | d9 + d10 | d9 - d10",
        "d10 : u | d10 * u | d10 / u | d10 % u",
        "u : - u | + u | ! u | ~ u | ++ u | -- u | r | r ++ | r --",
        "r : NUMBER | NAME | NAME ( arguments ) | NAME [ e ] | ( e )",
        "arguments : | e more-arguments",
        "more-arguments : | more-arguments , e",
    };

    private static final String TOKENS = "int char void enum if else while do for switch case default break continue return x main put 5 0x1F 'a' '\\n' \"s\" \"\""
        + " ( ) { } [ ] , ; : ? = += -= *= /= %= <<= >>= &= |= ^= || && | ^ & == != < > <= >= << >> + - * / % ! ~ ++ --";

    private static final String[] TEXTS = {
        "enum { a , b = 2 ? 3 : 4 , c = - 1 } ; enum { d } ; int e , f = 7 , g [ 2 ] = { 1 , b } , h [ 3 ] ; char i [ 3 ] = \"s\" , j = f = 1 ; int k ;",
        "void a ( void ) { return ; } char b ( int x , char y [ ] , int z [ ] ) { } int c ( ) { ; } int d ( char x ) { { } { { ; } } }",
        "int main ( int n ) { int a , b = 3 , c [ 4 ] = { 5 , 6 } ; char d , e [ 3 ] = \"s\" ; int f ; }",
        "int main ( int n ) { if ( n ) ; else n ; if ( n ) if ( n ) ; else ; else { } if ( n ) int x ; ; if ( n ) { } n ; }",
        "int main ( int n ) { while ( n ) n ; while ( n ) { break ; } do ; while ( n ) ; do { continue ; } while ( n ) ; do while ( n ) ; while ( n ) ; }",
        "int main ( int n ) { for ( ; ; ) ; for ( n ; n ; n ) n ; for ( int i = 0 , j [ 2 ] ; i ; i ++ ) { } for ( char c ; ; c ) break ; for ( ; n ; ) ; }",
        "int main ( int n ) { switch ( n ) { } switch ( n ) { case 1 : } switch ( n ) { default : n ; case 1 + 2 : case 3 ? 4 : 5 : { } default : int x ; break ; } }",
        "int main ( int n ) { switch ( n ) { case 1 : switch ( n ) { default : } while ( n ) switch ( n ) { } if ( n ) ; else ; ; } return n ; return ; }",
        "int main ( int n ) { n = n += n -= n ; n ++ = -- n ; ( n ) = n ; - n *= n ; n [ n ] = n ; n ( ) = n ; n ( n , n = n ) ++ ; n [ n = n ] -- ; }",
        "int main ( int n ) { n ? n : n ? n : n ; n ? n ? n : n : n ; n ? n = n : n ; ( n ? n : n ) ; n || n && n | n ^ n & n == n < n << n + n * n ; }",
        "int main ( int n ) { - + ! ~ ++ -- n ; n * - n / + n % ! n ; n + n - n ; n >> n > n <= n != n ; ( ( n ) ) ; ( n = n ) ++ ; 5 ; 'a' ++ ; n - - n ; }",
        "int main ( int n ) { f ( g ( ) , h ( n ) , i [ n ] ) ; f ( n ) + f ( n ) ; i [ f ( ) ] ; }",
    };

    private final Map<String, List<String[]>> rules = new HashMap<>();

    public static void main(String[] args) {
        EveryTokenTest test = new EveryTokenTest();
        for (int i = 0; i < GRAMMAR.length; i++) {
            test.read(GRAMMAR[i]);
        }
        for (int i = 0; i < TEXTS.length; i++) {
            test.everyToken(TEXTS[i].split(" "));
        }
        Check.end("EveryTokenTest");
    }

    /** Its marks : and | are written out in the grammar as COLON and OR, as these divide the rules. */
    private void read(String line) {
        String name = line.substring(0, line.indexOf(' '));
        String[] ways = line.substring(name.length() + 2).split("\\|", -1);
        List<String[]> parts = new ArrayList<>();
        for (int i = 0; i < ways.length; i++) {
            String way = ways[i].trim();
            parts.add(way.isEmpty() ? new String[0] : way.split(" +"));
        }
        rules.put(name, parts);
    }

    /** What a token is called in the grammar. */
    private static String called(String token) {
        char first = token.charAt(0);
        boolean letter = Character.isLetter(first);
        if (letter && " int char void enum if else while do for switch case default break continue return ".contains(" " + token + " ")) {
            return token;
        }
        if (letter) {
            return "NAME";
        }
        if (Character.isDigit(first) || first == '\'') {
            return "NUMBER";
        }
        return first == '"' ? "STRING" : token.equals(":") ? "COLON" : token.replace("|", "OR");
    }

    /** A rule of which a part has been read, since a beginning of the text. */
    private record Part(String name, String[] way, int dot, int from) {
        String next() {
            return dot < way.length ? way[dot] : null;
        }

        Part behind() {
            return new Part(name, way, dot + 1, from);
        }
    }

    private void everyToken(String[] text) {
        List<Set<Part>> chart = new ArrayList<>();
        Set<Part> here = new HashSet<>();
        for (String[] way : rules.get("text")) {
            here.add(new Part("text", way, 0, 0));
        }
        StringBuilder before = new StringBuilder();
        boolean stands = true;
        for (int at = 0; at <= text.length && stands; at++) {
            chart.add(here);
            complete(chart, here);
            Set<String> may = new HashSet<>();
            for (Part part : here) {
                may.add(part.next());
            }
            String[] all = TOKENS.split(" ");
            for (int t = 0; t < all.length; t++) {
                tried(before.toString(), all[t], may.contains(called(all[t])));
            }
            if (at < text.length) {
                stands = may.contains(called(text[at]));
                here = after(here, called(text[at]));
                before.append(text[at]).append(' ');
            }
        }
        Check.due("the text itself stands: " + before, stands ? 1 : 0, 1);
    }

    /** Adds what may begin here and what ends here, until nothing is new. */
    private void complete(List<Set<Part>> chart, Set<Part> here) {
        int now = chart.size() - 1;
        int size = -1;
        while (size != here.size()) {
            size = here.size();
            for (Part part : here.toArray(new Part[0])) {
                String next = part.next();
                if (next == null) {
                    for (Part open : chart.get(part.from()).toArray(new Part[0])) {
                        if (part.name().equals(open.next())) {
                            here.add(open.behind());
                        }
                    }
                } else if (rules.containsKey(next)) {
                    for (String[] way : rules.get(next)) {
                        here.add(new Part(next, way, 0, now));
                    }
                }
            }
        }
    }

    private static Set<Part> after(Set<Part> here, String token) {
        Set<Part> behind = new HashSet<>();
        for (Part part : here) {
            if (token.equals(part.next())) {
                behind.add(part.behind());
            }
        }
        return behind;
    }

    /** A token that may stand there leaves the text too short or whole, one that may not is told itself. */
    private static void tried(String before, String token, boolean may) {
        HomeSystem system = new HomeSystem();
        String text = before + token;
        int found = Check.text(system, 0, text);
        boolean refused = found == HomeSystem.NONE && system.place() == before.length() + 1;
        Check.due("can " + token + " not stand behind " + before, refused ? 1 : 0, may ? 0 : 1);
        if (may && found == HomeSystem.NONE) {
            Check.due("the end of " + text, system.place(), text.length() + 1);
        }
    }
}
