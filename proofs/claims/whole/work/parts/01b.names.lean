def wsX6_stand_r2 : List Cond := [Cond.methodLink RX6 193 yX6_goes, Cond.static yX6_goes, Cond.code yX6_goes cX6_goes 3 none, Cond.methodLink RX6 176 yX6_biters, Cond.static yX6_biters, Cond.code yX6_biters cX6_biters 3 (some .int), Cond.methodLink RX6 173 yX6_bites, Cond.static yX6_bites, Cond.code yX6_bites cX6_bites 2 (some .boolean), Cond.methodLink RX6 163 yX6_nearOf, Cond.static yX6_nearOf, Cond.code yX6_nearOf cX6_nearOf 2 (some .int), Cond.methodLink RX6 156 yX6_tight, Cond.static yX6_tight, Cond.code yX6_tight cX6_tight 4 (some .int), Cond.methodLink RX6 73 yX6_whoIs, Cond.static yX6_whoIs, Cond.code yX6_whoIs cX6_whoIs 3 (some .int), Cond.methodLink RX6 159 yX6_nearAs, Cond.static yX6_nearAs, Cond.code yX6_nearAs cX6_nearAs 8 (some .int), Cond.methodLink RX6 128 yX6_lesser, Cond.static yX6_lesser, Cond.code yX6_lesser cX6_lesser 2 (some .int)]
def wsX6_stand_r3 : List Cond := [Cond.methodLink RX6 166 yX6_isGuarded, Cond.static yX6_isGuarded, Cond.code yX6_isGuarded cX6_isGuarded 3 (some .boolean), Cond.methodLink RX6 170 yX6_whom, Cond.static yX6_whom, Cond.code yX6_whom cX6_whom 3 (some .int), Cond.methodLink RX6 180 yX6_has, Cond.static yX6_has, Cond.code yX6_has cX6_has 2 (some .boolean), Cond.methodLink RX6 184 yX6_bits, Cond.static yX6_bits, Cond.code yX6_bits cX6_bits 3 (some .int)]
def wsX6_stand : List Cond := .code yX6_stand cX6_stand 7 (some .int) :: ((wsX6_stand_r1 ++ (wsX6_stand_r2 ++ wsX6_stand_r3)) ++ wsX60)
def wsX6_helps_r1 : List Cond := [Cond.fieldLink RX6 7 "BiteChildModel" "now" "[I", Cond.fieldLink RX6 16 "BiteChildModel" "aside" "[I", Cond.methodLink RX6 205 yX6_layAside, Cond.instanceMethod yX6_layAside, Cond.selects RX6 yX6_layAside yX6_layAside, Cond.initialized RX6, Cond.code yX6_layAside cX6_layAside 1 none, Cond.methodLink RX6 152 yX6_copies, Cond.static yX6_copies, Cond.code yX6_copies cX6_copies 6 none, Cond.methodLink RX6 208 yX6_bitesIn, Cond.instanceMethod yX6_bitesIn, Cond.selects RX6 yX6_bitesIn yX6_bitesIn, Cond.code yX6_bitesIn cX6_bitesIn 4 (some .int), Cond.methodLink RX6 193 yX6_goes, Cond.static yX6_goes, Cond.code yX6_goes cX6_goes 3 none, Cond.methodLink RX6 176 yX6_biters, Cond.static yX6_biters, Cond.code yX6_biters cX6_biters 3 (some .int), Cond.methodLink RX6 173 yX6_bites, Cond.static yX6_bites, Cond.code yX6_bites cX6_bites 2 (some .boolean), Cond.methodLink RX6 163 yX6_nearOf]
def wsX6_helps_r2 : List Cond := [Cond.static yX6_nearOf, Cond.code yX6_nearOf cX6_nearOf 2 (some .int), Cond.methodLink RX6 156 yX6_tight, Cond.static yX6_tight, Cond.code yX6_tight cX6_tight 4 (some .int), Cond.methodLink RX6 73 yX6_whoIs, Cond.static yX6_whoIs, Cond.code yX6_whoIs cX6_whoIs 3 (some .int), Cond.methodLink RX6 159 yX6_nearAs, Cond.static yX6_nearAs, Cond.code yX6_nearAs cX6_nearAs 8 (some .int), Cond.methodLink RX6 128 yX6_lesser, Cond.static yX6_lesser, Cond.code yX6_lesser cX6_lesser 2 (some .int), Cond.methodLink RX6 166 yX6_isGuarded, Cond.static yX6_isGuarded, Cond.code yX6_isGuarded cX6_isGuarded 3 (some .boolean), Cond.methodLink RX6 170 yX6_whom, Cond.static yX6_whom, Cond.code yX6_whom cX6_whom 3 (some .int), Cond.methodLink RX6 180 yX6_has, Cond.static yX6_has, Cond.code yX6_has cX6_has 2 (some .boolean), Cond.methodLink RX6 184 yX6_bits]
def wsX6_helps_r3 : List Cond := [Cond.static yX6_bits, Cond.code yX6_bits cX6_bits 3 (some .int)]
def wsX6_helps : List Cond := .code yX6_helps cX6_helps 6 (some .int) :: ((wsX6_helps_r1 ++ (wsX6_helps_r2 ++ wsX6_helps_r3)) ++ wsX60)
def wsX6_seatsAll_r1 : List Cond := [Cond.fieldLink RX6 7 "BiteChildModel" "now" "[I", Cond.constant RX6 211 (1000000), Cond.fieldLink RX6 33 "BiteChildModel" "seats" "[I", Cond.fieldLink RX6 16 "BiteChildModel" "aside" "[I", Cond.fieldLink RX6 36 "BiteChildModel" "best" "[I", Cond.methodLink RX6 205 yX6_layAside, Cond.instanceMethod yX6_layAside, Cond.selects RX6 yX6_layAside yX6_layAside, Cond.initialized RX6, Cond.code yX6_layAside cX6_layAside 1 none, Cond.methodLink RX6 152 yX6_copies, Cond.static yX6_copies, Cond.code yX6_copies cX6_copies 6 none, Cond.methodLink RX6 176 yX6_biters, Cond.static yX6_biters, Cond.code yX6_biters cX6_biters 3 (some .int), Cond.methodLink RX6 173 yX6_bites, Cond.static yX6_bites, Cond.code yX6_bites cX6_bites 2 (some .boolean), Cond.methodLink RX6 163 yX6_nearOf, Cond.static yX6_nearOf, Cond.code yX6_nearOf cX6_nearOf 2 (some .int), Cond.methodLink RX6 156 yX6_tight, Cond.static yX6_tight]
def wsX6_seatsAll_r2 : List Cond := [Cond.code yX6_tight cX6_tight 4 (some .int), Cond.methodLink RX6 73 yX6_whoIs, Cond.static yX6_whoIs, Cond.code yX6_whoIs cX6_whoIs 3 (some .int), Cond.methodLink RX6 159 yX6_nearAs, Cond.static yX6_nearAs, Cond.code yX6_nearAs cX6_nearAs 8 (some .int), Cond.methodLink RX6 128 yX6_lesser, Cond.static yX6_lesser, Cond.code yX6_lesser cX6_lesser 2 (some .int), Cond.methodLink RX6 166 yX6_isGuarded, Cond.static yX6_isGuarded, Cond.code yX6_isGuarded cX6_isGuarded 3 (some .boolean), Cond.methodLink RX6 170 yX6_whom, Cond.static yX6_whom, Cond.code yX6_whom cX6_whom 3 (some .int), Cond.methodLink RX6 184 yX6_bits, Cond.static yX6_bits, Cond.code yX6_bits cX6_bits 3 (some .int)]
def wsX6_seatsAll : List Cond := .code yX6_seatsAll cX6_seatsAll 5 (some .int) :: ((wsX6_seatsAll_r1 ++ wsX6_seatsAll_r2) ++ wsX60)
def wsX6_seated_r1 : List Cond := [Cond.fieldLink RX6 36 "BiteChildModel" "best" "[I", Cond.methodLink RX6 197 yX6_isChild, Cond.instanceMethod yX6_isChild, Cond.selects RX6 yX6_isChild yX6_isChild, Cond.initialized RX6, Cond.code yX6_isChild cX6_isChild 2 (some .boolean), Cond.fieldLink RX6 7 "BiteChildModel" "now" "[I", Cond.methodLink RX6 55 yX6_in, Cond.static yX6_in, Cond.code yX6_in cX6_in 6 (some .boolean), Cond.methodLink RX6 202 yX6_worse, Cond.instanceMethod yX6_worse, Cond.selects RX6 yX6_worse yX6_worse, Cond.code yX6_worse cX6_worse 1 (some .int), Cond.fieldLink RX6 43 "BiteChildModel" "bads" "I", Cond.methodLink RX6 212 yX6_seatsAll, Cond.instanceMethod yX6_seatsAll, Cond.selects RX6 yX6_seatsAll yX6_seatsAll, Cond.code yX6_seatsAll cX6_seatsAll 5 (some .int), Cond.constant RX6 211 (1000000), Cond.fieldLink RX6 33 "BiteChildModel" "seats" "[I", Cond.fieldLink RX6 16 "BiteChildModel" "aside" "[I", Cond.methodLink RX6 205 yX6_layAside, Cond.instanceMethod yX6_layAside]
def wsX6_seated_r2 : List Cond := [Cond.selects RX6 yX6_layAside yX6_layAside, Cond.code yX6_layAside cX6_layAside 1 none, Cond.methodLink RX6 152 yX6_copies, Cond.static yX6_copies, Cond.code yX6_copies cX6_copies 6 none, Cond.methodLink RX6 176 yX6_biters, Cond.static yX6_biters, Cond.code yX6_biters cX6_biters 3 (some .int), Cond.methodLink RX6 173 yX6_bites, Cond.static yX6_bites, Cond.code yX6_bites cX6_bites 2 (some .boolean), Cond.methodLink RX6 163 yX6_nearOf, Cond.static yX6_nearOf, Cond.code yX6_nearOf cX6_nearOf 2 (some .int), Cond.methodLink RX6 156 yX6_tight, Cond.static yX6_tight, Cond.code yX6_tight cX6_tight 4 (some .int), Cond.methodLink RX6 73 yX6_whoIs, Cond.static yX6_whoIs, Cond.code yX6_whoIs cX6_whoIs 3 (some .int), Cond.methodLink RX6 159 yX6_nearAs, Cond.static yX6_nearAs, Cond.code yX6_nearAs cX6_nearAs 8 (some .int), Cond.methodLink RX6 128 yX6_lesser]
def wsX6_seated_r3 : List Cond := [Cond.static yX6_lesser, Cond.code yX6_lesser cX6_lesser 2 (some .int), Cond.methodLink RX6 166 yX6_isGuarded, Cond.static yX6_isGuarded, Cond.code yX6_isGuarded cX6_isGuarded 3 (some .boolean), Cond.methodLink RX6 170 yX6_whom, Cond.static yX6_whom, Cond.code yX6_whom cX6_whom 3 (some .int), Cond.methodLink RX6 184 yX6_bits, Cond.static yX6_bits, Cond.code yX6_bits cX6_bits 3 (some .int)]
def wsX6_seated : List Cond := .code yX6_seated cX6_seated 3 (some .int) :: ((wsX6_seated_r1 ++ (wsX6_seated_r2 ++ wsX6_seated_r3)) ++ wsX60)
def wsX6_words_r1 : List Cond := [Cond.fieldLink RX6 16 "BiteChildModel" "aside" "[I", Cond.methodLink RX6 197 yX6_isChild, Cond.instanceMethod yX6_isChild, Cond.selects RX6 yX6_isChild yX6_isChild, Cond.initialized RX6, Cond.code yX6_isChild cX6_isChild 2 (some .boolean), Cond.fieldLink RX6 7 "BiteChildModel" "now" "[I", Cond.methodLink RX6 55 yX6_in, Cond.static yX6_in, Cond.code yX6_in cX6_in 6 (some .boolean), Cond.methodLink RX6 63 yX6_bad, Cond.instanceMethod yX6_bad, Cond.selects RX6 yX6_bad yX6_bad, Cond.code yX6_bad cX6_bad 1 (some .int), Cond.fieldLink RX6 43 "BiteChildModel" "bads" "I", Cond.methodLink RX6 205 yX6_layAside, Cond.instanceMethod yX6_layAside, Cond.selects RX6 yX6_layAside yX6_layAside, Cond.code yX6_layAside cX6_layAside 1 none, Cond.methodLink RX6 152 yX6_copies, Cond.static yX6_copies, Cond.code yX6_copies cX6_copies 6 none, Cond.methodLink RX6 163 yX6_nearOf, Cond.static yX6_nearOf]
def wsX6_words_r2 : List Cond := [Cond.code yX6_nearOf cX6_nearOf 2 (some .int), Cond.methodLink RX6 156 yX6_tight, Cond.static yX6_tight, Cond.code yX6_tight cX6_tight 4 (some .int), Cond.methodLink RX6 73 yX6_whoIs, Cond.static yX6_whoIs, Cond.code yX6_whoIs cX6_whoIs 3 (some .int), Cond.methodLink RX6 159 yX6_nearAs, Cond.static yX6_nearAs, Cond.code yX6_nearAs cX6_nearAs 8 (some .int), Cond.methodLink RX6 128 yX6_lesser, Cond.static yX6_lesser, Cond.code yX6_lesser cX6_lesser 2 (some .int)]
def wsX6_words : List Cond := .code yX6_words cX6_words 3 (some .int) :: ((wsX6_words_r1 ++ wsX6_words_r2) ++ wsX60)
def wsX6_say_r1 : List Cond := [Cond.constant RX6 211 (1000000), Cond.fieldLink RX6 7 "BiteChildModel" "now" "[I", Cond.fieldLink RX6 16 "BiteChildModel" "aside" "[I", Cond.methodLink RX6 205 yX6_layAside, Cond.instanceMethod yX6_layAside, Cond.selects RX6 yX6_layAside yX6_layAside, Cond.initialized RX6, Cond.code yX6_layAside cX6_layAside 1 none, Cond.methodLink RX6 152 yX6_copies, Cond.static yX6_copies, Cond.code yX6_copies cX6_copies 6 none, Cond.methodLink RX6 208 yX6_bitesIn, Cond.instanceMethod yX6_bitesIn, Cond.selects RX6 yX6_bitesIn yX6_bitesIn, Cond.code yX6_bitesIn cX6_bitesIn 4 (some .int), Cond.methodLink RX6 193 yX6_goes, Cond.static yX6_goes, Cond.code yX6_goes cX6_goes 3 none, Cond.methodLink RX6 176 yX6_biters, Cond.static yX6_biters, Cond.code yX6_biters cX6_biters 3 (some .int), Cond.methodLink RX6 173 yX6_bites, Cond.static yX6_bites, Cond.code yX6_bites cX6_bites 2 (some .boolean)]
def wsX6_say_r2 : List Cond := [Cond.methodLink RX6 163 yX6_nearOf, Cond.static yX6_nearOf, Cond.code yX6_nearOf cX6_nearOf 2 (some .int), Cond.methodLink RX6 156 yX6_tight, Cond.static yX6_tight, Cond.code yX6_tight cX6_tight 4 (some .int), Cond.methodLink RX6 73 yX6_whoIs, Cond.static yX6_whoIs, Cond.code yX6_whoIs cX6_whoIs 3 (some .int), Cond.methodLink RX6 159 yX6_nearAs, Cond.static yX6_nearAs, Cond.code yX6_nearAs cX6_nearAs 8 (some .int), Cond.methodLink RX6 128 yX6_lesser, Cond.static yX6_lesser, Cond.code yX6_lesser cX6_lesser 2 (some .int), Cond.methodLink RX6 166 yX6_isGuarded, Cond.static yX6_isGuarded, Cond.code yX6_isGuarded cX6_isGuarded 3 (some .boolean), Cond.methodLink RX6 170 yX6_whom, Cond.static yX6_whom, Cond.code yX6_whom cX6_whom 3 (some .int), Cond.methodLink RX6 180 yX6_has, Cond.static yX6_has, Cond.code yX6_has cX6_has 2 (some .boolean)]
def wsX6_say_r3 : List Cond := [Cond.methodLink RX6 184 yX6_bits, Cond.static yX6_bits, Cond.code yX6_bits cX6_bits 3 (some .int)]
def wsX6_say : List Cond := .code yX6_say cX6_say 5 (some .int) :: ((wsX6_say_r1 ++ (wsX6_say_r2 ++ wsX6_say_r3)) ++ wsX60)
def wsX6_note_r1 : List Cond := [Cond.constantLong RX6 71 (30), Cond.constantLong RX6 200 (2), Cond.constantLong RX6 69 (20), Cond.constantLong RX6 215 (9), Cond.constantLong RX6 217 (6), Cond.constantLong RX6 188 (60), Cond.fieldLink RX6 7 "BiteChildModel" "now" "[I", Cond.methodLink RX6 197 yX6_isChild, Cond.instanceMethod yX6_isChild, Cond.selects RX6 yX6_isChild yX6_isChild, Cond.initialized RX6, Cond.code yX6_isChild cX6_isChild 2 (some .boolean), Cond.methodLink RX6 55 yX6_in, Cond.static yX6_in, Cond.code yX6_in cX6_in 6 (some .boolean), Cond.methodLink RX6 63 yX6_bad, Cond.instanceMethod yX6_bad, Cond.selects RX6 yX6_bad yX6_bad, Cond.code yX6_bad cX6_bad 1 (some .int), Cond.fieldLink RX6 43 "BiteChildModel" "bads" "I", Cond.methodLink RX6 80 yX6_full, Cond.instanceMethod yX6_full, Cond.selects RX6 yX6_full yX6_full, Cond.code yX6_full cX6_full 1 (some .int)]
def wsX6_note_r2 : List Cond := [Cond.fieldLink RX6 50 "BiteChildModel" "fulls" "I"]
def wsX6_note : List Cond := .code yX6_note cX6_note 9 (some .int) :: ((wsX6_note_r1 ++ wsX6_note_r2) ++ wsX60)
def wsX6_forget : List Cond := .code yX6_forget cX6_forget 2 (some .int) :: ([.fieldLink RX6 7 "BiteChildModel" "now" "[I"] ++ wsX60)
def wsX6_kindsOf : List Cond := .code yX6_kindsOf cX6_kindsOf 6 (some .int) :: ([.fieldLink RX6 7 "BiteChildModel" "now" "[I", .methodLink RX6 159 yX6_nearAs, .static yX6_nearAs, .initialized RX6, .code yX6_nearAs cX6_nearAs 8 (some .int), .methodLink RX6 128 yX6_lesser, .static yX6_lesser, .code yX6_lesser cX6_lesser 2 (some .int)] ++ wsX60)
def wsX6_is : List Cond := .code yX6_is cX6_is 2 (some .int) :: ([.methodLink RX6 197 yX6_isChild, .instanceMethod yX6_isChild, .selects RX6 yX6_isChild yX6_isChild, .initialized RX6, .code yX6_isChild cX6_isChild 2 (some .boolean), .fieldLink RX6 7 "BiteChildModel" "now" "[I", .methodLink RX6 55 yX6_in, .static yX6_in, .code yX6_in cX6_in 6 (some .boolean), .methodLink RX6 219 yX6_kindsOf, .instanceMethod yX6_kindsOf, .selects RX6 yX6_kindsOf yX6_kindsOf, .code yX6_kindsOf cX6_kindsOf 6 (some .int), .methodLink RX6 159 yX6_nearAs, .static yX6_nearAs, .code yX6_nearAs cX6_nearAs 8 (some .int), .methodLink RX6 128 yX6_lesser, .static yX6_lesser, .code yX6_lesser cX6_lesser 2 (some .int), .methodLink RX6 63 yX6_bad, .instanceMethod yX6_bad, .selects RX6 yX6_bad yX6_bad, .code yX6_bad cX6_bad 1 (some .int), .fieldLink RX6 43 "BiteChildModel" "bads" "I"] ++ wsX60)
def wsX6_alike : List Cond := .code yX6_alike cX6_alike 11 (some .int) :: ([.methodLink RX6 180 yX6_has, .static yX6_has, .initialized RX6, .code yX6_has cX6_has 2 (some .boolean), .methodLink RX6 159 yX6_nearAs, .static yX6_nearAs, .code yX6_nearAs cX6_nearAs 8 (some .int), .methodLink RX6 128 yX6_lesser, .static yX6_lesser, .code yX6_lesser cX6_lesser 2 (some .int)])
def wsX6_look_r1 : List Cond := [Cond.constant RX6 211 (1000000), Cond.fieldLink RX6 7 "BiteChildModel" "now" "[I", Cond.methodLink RX6 197 yX6_isChild, Cond.instanceMethod yX6_isChild, Cond.selects RX6 yX6_isChild yX6_isChild, Cond.initialized RX6, Cond.code yX6_isChild cX6_isChild 2 (some .boolean), Cond.methodLink RX6 55 yX6_in, Cond.static yX6_in, Cond.code yX6_in cX6_in 6 (some .boolean), Cond.methodLink RX6 63 yX6_bad, Cond.instanceMethod yX6_bad, Cond.selects RX6 yX6_bad yX6_bad, Cond.code yX6_bad cX6_bad 1 (some .int), Cond.fieldLink RX6 43 "BiteChildModel" "bads" "I", Cond.methodLink RX6 219 yX6_kindsOf, Cond.instanceMethod yX6_kindsOf, Cond.selects RX6 yX6_kindsOf yX6_kindsOf, Cond.code yX6_kindsOf cX6_kindsOf 6 (some .int), Cond.methodLink RX6 159 yX6_nearAs, Cond.static yX6_nearAs, Cond.code yX6_nearAs cX6_nearAs 8 (some .int), Cond.methodLink RX6 128 yX6_lesser, Cond.static yX6_lesser]
def wsX6_look_r2 : List Cond := [Cond.code yX6_lesser cX6_lesser 2 (some .int), Cond.methodLink RX6 222 yX6_alike, Cond.instanceMethod yX6_alike, Cond.selects RX6 yX6_alike yX6_alike, Cond.code yX6_alike cX6_alike 11 (some .int), Cond.methodLink RX6 180 yX6_has, Cond.static yX6_has, Cond.code yX6_has cX6_has 2 (some .boolean)]
def wsX6_look : List Cond := .code yX6_look cX6_look 7 (some .int) :: ((wsX6_look_r1 ++ wsX6_look_r2) ++ wsX60)
def wsX6_who : List Cond := .code yX6_who cX6_who 4 (some .int) :: ([.fieldLink RX6 7 "BiteChildModel" "now" "[I", .methodLink RX6 197 yX6_isChild, .instanceMethod yX6_isChild, .selects RX6 yX6_isChild yX6_isChild, .initialized RX6, .code yX6_isChild cX6_isChild 2 (some .boolean), .methodLink RX6 55 yX6_in, .static yX6_in, .code yX6_in cX6_in 6 (some .boolean), .methodLink RX6 63 yX6_bad, .instanceMethod yX6_bad, .selects RX6 yX6_bad yX6_bad, .code yX6_bad cX6_bad 1 (some .int), .fieldLink RX6 43 "BiteChildModel" "bads" "I", .methodLink RX6 170 yX6_whom, .static yX6_whom, .code yX6_whom cX6_whom 3 (some .int), .methodLink RX6 73 yX6_whoIs, .static yX6_whoIs, .code yX6_whoIs cX6_whoIs 3 (some .int)] ++ wsX60)
def wsX6_gets_r1 : List Cond := [Cond.fieldLink RX6 7 "BiteChildModel" "now" "[I", Cond.methodLink RX6 176 yX6_biters, Cond.static yX6_biters, Cond.initialized RX6, Cond.code yX6_biters cX6_biters 3 (some .int), Cond.methodLink RX6 173 yX6_bites, Cond.static yX6_bites, Cond.code yX6_bites cX6_bites 2 (some .boolean), Cond.methodLink RX6 163 yX6_nearOf, Cond.static yX6_nearOf, Cond.code yX6_nearOf cX6_nearOf 2 (some .int), Cond.methodLink RX6 156 yX6_tight, Cond.static yX6_tight, Cond.code yX6_tight cX6_tight 4 (some .int), Cond.methodLink RX6 73 yX6_whoIs, Cond.static yX6_whoIs, Cond.code yX6_whoIs cX6_whoIs 3 (some .int), Cond.methodLink RX6 159 yX6_nearAs, Cond.static yX6_nearAs, Cond.code yX6_nearAs cX6_nearAs 8 (some .int), Cond.methodLink RX6 128 yX6_lesser, Cond.static yX6_lesser, Cond.code yX6_lesser cX6_lesser 2 (some .int), Cond.methodLink RX6 166 yX6_isGuarded]
def wsX6_gets_r2 : List Cond := [Cond.static yX6_isGuarded, Cond.code yX6_isGuarded cX6_isGuarded 3 (some .boolean), Cond.methodLink RX6 170 yX6_whom, Cond.static yX6_whom, Cond.code yX6_whom cX6_whom 3 (some .int), Cond.methodLink RX6 180 yX6_has, Cond.static yX6_has, Cond.code yX6_has cX6_has 2 (some .boolean)]
def wsX6_gets : List Cond := .code yX6_gets cX6_gets 6 (some .int) :: ((wsX6_gets_r1 ++ wsX6_gets_r2) ++ wsX60)
def wsX6_rings_r1 : List Cond := [Cond.methodLink RX6 197 yX6_isChild, Cond.instanceMethod yX6_isChild, Cond.selects RX6 yX6_isChild yX6_isChild, Cond.initialized RX6, Cond.code yX6_isChild cX6_isChild 2 (some .boolean), Cond.fieldLink RX6 7 "BiteChildModel" "now" "[I", Cond.methodLink RX6 55 yX6_in, Cond.static yX6_in, Cond.code yX6_in cX6_in 6 (some .boolean), Cond.methodLink RX6 63 yX6_bad, Cond.instanceMethod yX6_bad, Cond.selects RX6 yX6_bad yX6_bad, Cond.code yX6_bad cX6_bad 1 (some .int), Cond.fieldLink RX6 43 "BiteChildModel" "bads" "I", Cond.methodLink RX6 180 yX6_has, Cond.static yX6_has, Cond.code yX6_has cX6_has 2 (some .boolean), Cond.methodLink RX6 225 yX6_gets, Cond.instanceMethod yX6_gets, Cond.selects RX6 yX6_gets yX6_gets, Cond.code yX6_gets cX6_gets 6 (some .int), Cond.methodLink RX6 176 yX6_biters, Cond.static yX6_biters, Cond.code yX6_biters cX6_biters 3 (some .int)]
def wsX6_rings_r2 : List Cond := [Cond.methodLink RX6 173 yX6_bites, Cond.static yX6_bites, Cond.code yX6_bites cX6_bites 2 (some .boolean), Cond.methodLink RX6 163 yX6_nearOf, Cond.static yX6_nearOf, Cond.code yX6_nearOf cX6_nearOf 2 (some .int), Cond.methodLink RX6 156 yX6_tight, Cond.static yX6_tight, Cond.code yX6_tight cX6_tight 4 (some .int), Cond.methodLink RX6 73 yX6_whoIs, Cond.static yX6_whoIs, Cond.code yX6_whoIs cX6_whoIs 3 (some .int), Cond.methodLink RX6 159 yX6_nearAs, Cond.static yX6_nearAs, Cond.code yX6_nearAs cX6_nearAs 8 (some .int), Cond.methodLink RX6 128 yX6_lesser, Cond.static yX6_lesser, Cond.code yX6_lesser cX6_lesser 2 (some .int), Cond.methodLink RX6 166 yX6_isGuarded, Cond.static yX6_isGuarded, Cond.code yX6_isGuarded cX6_isGuarded 3 (some .boolean), Cond.methodLink RX6 170 yX6_whom, Cond.static yX6_whom, Cond.code yX6_whom cX6_whom 3 (some .int)]
def wsX6_rings : List Cond := .code yX6_rings cX6_rings 7 (some .int) :: ((wsX6_rings_r1 ++ wsX6_rings_r2) ++ wsX60)
def wsX6_eyes_r1 : List Cond := [Cond.constantLong RX6 228 (10), Cond.fieldLink RX6 7 "BiteChildModel" "now" "[I", Cond.fieldLink RX6 230 "BiteChildModel" "above" "J", Cond.fieldLink RX6 29 "BiteChildModel" "below" "J", Cond.methodLink RX6 55 yX6_in, Cond.static yX6_in, Cond.initialized RX6, Cond.code yX6_in cX6_in 6 (some .boolean), Cond.methodLink RX6 63 yX6_bad, Cond.instanceMethod yX6_bad, Cond.selects RX6 yX6_bad yX6_bad, Cond.code yX6_bad cX6_bad 1 (some .int), Cond.fieldLink RX6 43 "BiteChildModel" "bads" "I", Cond.methodLink RX6 176 yX6_biters, Cond.static yX6_biters, Cond.code yX6_biters cX6_biters 3 (some .int), Cond.methodLink RX6 173 yX6_bites, Cond.static yX6_bites, Cond.code yX6_bites cX6_bites 2 (some .boolean), Cond.methodLink RX6 163 yX6_nearOf, Cond.static yX6_nearOf, Cond.code yX6_nearOf cX6_nearOf 2 (some .int), Cond.methodLink RX6 156 yX6_tight, Cond.static yX6_tight]
def wsX6_eyes_r2 : List Cond := [Cond.code yX6_tight cX6_tight 4 (some .int), Cond.methodLink RX6 73 yX6_whoIs, Cond.static yX6_whoIs, Cond.code yX6_whoIs cX6_whoIs 3 (some .int), Cond.methodLink RX6 159 yX6_nearAs, Cond.static yX6_nearAs, Cond.code yX6_nearAs cX6_nearAs 8 (some .int), Cond.methodLink RX6 128 yX6_lesser, Cond.static yX6_lesser, Cond.code yX6_lesser cX6_lesser 2 (some .int), Cond.methodLink RX6 166 yX6_isGuarded, Cond.static yX6_isGuarded, Cond.code yX6_isGuarded cX6_isGuarded 3 (some .boolean), Cond.methodLink RX6 170 yX6_whom, Cond.static yX6_whom, Cond.code yX6_whom cX6_whom 3 (some .int), Cond.methodLink RX6 184 yX6_bits, Cond.static yX6_bits, Cond.code yX6_bits cX6_bits 3 (some .int)]
def wsX6_eyes : List Cond := .code yX6_eyes cX6_eyes 10 (some .int) :: ((wsX6_eyes_r1 ++ wsX6_eyes_r2) ++ wsX60)
def wsX6_weeks_r1 : List Cond := [Cond.constantLong RX6 233 (999999), Cond.constantLong RX6 188 (60), Cond.fieldLink RX6 7 "BiteChildModel" "now" "[I", Cond.constantLong RX6 235 (1103515245), Cond.constantLong RX6 237 (12345), Cond.constantLong RX6 239 (2147483648), Cond.fieldLink RX6 16 "BiteChildModel" "aside" "[I", Cond.constantLong RX6 241 (65536), Cond.constantLong RX6 243 (31), Cond.methodLink RX6 55 yX6_in, Cond.static yX6_in, Cond.initialized RX6, Cond.code yX6_in cX6_in 6 (some .boolean), Cond.methodLink RX6 63 yX6_bad, Cond.instanceMethod yX6_bad, Cond.selects RX6 yX6_bad yX6_bad, Cond.code yX6_bad cX6_bad 1 (some .int), Cond.fieldLink RX6 43 "BiteChildModel" "bads" "I", Cond.methodLink RX6 205 yX6_layAside, Cond.instanceMethod yX6_layAside, Cond.selects RX6 yX6_layAside yX6_layAside, Cond.code yX6_layAside cX6_layAside 1 none, Cond.methodLink RX6 152 yX6_copies, Cond.static yX6_copies]
def wsX6_weeks_r2 : List Cond := [Cond.code yX6_copies cX6_copies 6 none, Cond.methodLink RX6 208 yX6_bitesIn, Cond.instanceMethod yX6_bitesIn, Cond.selects RX6 yX6_bitesIn yX6_bitesIn, Cond.code yX6_bitesIn cX6_bitesIn 4 (some .int), Cond.methodLink RX6 193 yX6_goes, Cond.static yX6_goes, Cond.code yX6_goes cX6_goes 3 none, Cond.methodLink RX6 176 yX6_biters, Cond.static yX6_biters, Cond.code yX6_biters cX6_biters 3 (some .int), Cond.methodLink RX6 173 yX6_bites, Cond.static yX6_bites, Cond.code yX6_bites cX6_bites 2 (some .boolean), Cond.methodLink RX6 163 yX6_nearOf, Cond.static yX6_nearOf, Cond.code yX6_nearOf cX6_nearOf 2 (some .int), Cond.methodLink RX6 156 yX6_tight, Cond.static yX6_tight, Cond.code yX6_tight cX6_tight 4 (some .int), Cond.methodLink RX6 73 yX6_whoIs, Cond.static yX6_whoIs, Cond.code yX6_whoIs cX6_whoIs 3 (some .int), Cond.methodLink RX6 159 yX6_nearAs]
def wsX6_weeks_r3 : List Cond := [Cond.static yX6_nearAs, Cond.code yX6_nearAs cX6_nearAs 8 (some .int), Cond.methodLink RX6 128 yX6_lesser, Cond.static yX6_lesser, Cond.code yX6_lesser cX6_lesser 2 (some .int), Cond.methodLink RX6 166 yX6_isGuarded, Cond.static yX6_isGuarded, Cond.code yX6_isGuarded cX6_isGuarded 3 (some .boolean), Cond.methodLink RX6 170 yX6_whom, Cond.static yX6_whom, Cond.code yX6_whom cX6_whom 3 (some .int), Cond.methodLink RX6 180 yX6_has, Cond.static yX6_has, Cond.code yX6_has cX6_has 2 (some .boolean), Cond.methodLink RX6 184 yX6_bits, Cond.static yX6_bits, Cond.code yX6_bits cX6_bits 3 (some .int)]
def wsX6_weeks : List Cond := .code yX6_weeks cX6_weeks 8 (some .int) :: ((wsX6_weeks_r1 ++ (wsX6_weeks_r2 ++ wsX6_weeks_r3)) ++ wsX60)
def wsX6_part : List Cond := .code yX6_part cX6_part 2 (some .long) :: ([.fieldLink RX6 230 "BiteChildModel" "above" "J", .fieldLink RX6 29 "BiteChildModel" "below" "J", .methodLink RX6 55 yX6_in, .static yX6_in, .initialized RX6, .code yX6_in cX6_in 6 (some .boolean), .methodLink RX6 63 yX6_bad, .instanceMethod yX6_bad, .selects RX6 yX6_bad yX6_bad, .code yX6_bad cX6_bad 1 (some .int), .fieldLink RX6 43 "BiteChildModel" "bads" "I"] ++ wsX60)
def wsX6_image : List Cond := .code yX6_image cX6_image 2 (some .int) :: ([.fieldLink RX6 7 "BiteChildModel" "now" "[I", .fieldLink RX6 19 "BiteChildModel" "images" "[I", .fieldLink RX6 22 "BiteChildModel" "kept" "[Z", .methodLink RX6 55 yX6_in, .static yX6_in, .initialized RX6, .code yX6_in cX6_in 6 (some .boolean), .methodLink RX6 63 yX6_bad, .instanceMethod yX6_bad, .selects RX6 yX6_bad yX6_bad, .code yX6_bad cX6_bad 1 (some .int), .fieldLink RX6 43 "BiteChildModel" "bads" "I", .methodLink RX6 152 yX6_copies, .static yX6_copies, .code yX6_copies cX6_copies 6 none] ++ wsX60)
def wsX6_from : List Cond := .code yX6_from cX6_from 2 (some .int) :: ([.fieldLink RX6 22 "BiteChildModel" "kept" "[Z", .fieldLink RX6 19 "BiteChildModel" "images" "[I", .fieldLink RX6 7 "BiteChildModel" "now" "[I", .methodLink RX6 55 yX6_in, .static yX6_in, .initialized RX6, .code yX6_in cX6_in 6 (some .boolean), .methodLink RX6 63 yX6_bad, .instanceMethod yX6_bad, .selects RX6 yX6_bad yX6_bad, .code yX6_bad cX6_bad 1 (some .int), .fieldLink RX6 43 "BiteChildModel" "bads" "I", .methodLink RX6 77 yX6_no, .instanceMethod yX6_no, .selects RX6 yX6_no yX6_no, .code yX6_no cX6_no 1 (some .int), .fieldLink RX6 47 "BiteChildModel" "noes" "I", .methodLink RX6 152 yX6_copies, .static yX6_copies, .code yX6_copies cX6_copies 6 none] ++ wsX60)
def wsX6_status : List Cond := .code yX6_status cX6_status 2 (some .int) :: ([.fieldLink RX6 43 "BiteChildModel" "bads" "I", .fieldLink RX6 47 "BiteChildModel" "noes" "I", .fieldLink RX6 50 "BiteChildModel" "fulls" "I"] ++ wsX60)
def wsX6_counted : List Cond := .code yX6_counted cX6_counted 2 (some .int) :: ([.fieldLink RX6 7 "BiteChildModel" "now" "[I", .fieldLink RX6 89 "BiteChildModel" "size" "I"] ++ wsX60)
def wsX6_count : List Cond := .code yX6_count cX6_count 2 (some .int) :: ([.constantLong RX6 53 (7), .methodLink RX6 55 yX6_in, .static yX6_in, .initialized RX6, .code yX6_in cX6_in 6 (some .boolean), .methodLink RX6 245 yX6_counted, .instanceMethod yX6_counted, .selects RX6 yX6_counted yX6_counted, .code yX6_counted cX6_counted 2 (some .int), .fieldLink RX6 7 "BiteChildModel" "now" "[I", .fieldLink RX6 89 "BiteChildModel" "size" "I", .methodLink RX6 63 yX6_bad, .instanceMethod yX6_bad, .selects RX6 yX6_bad yX6_bad, .code yX6_bad cX6_bad 1 (some .int), .fieldLink RX6 43 "BiteChildModel" "bads" "I"] ++ wsX60)
def wsX6_digest : List Cond := .code yX6_digest cX6_digest 4 (some .long) :: ([.constantLong RX6 248 (1429), .constantLong RX6 243 (31), .fieldLink RX6 7 "BiteChildModel" "now" "[I", .fieldLink RX6 230 "BiteChildModel" "above" "J", .fieldLink RX6 29 "BiteChildModel" "below" "J", .methodLink RX6 245 yX6_counted, .instanceMethod yX6_counted, .selects RX6 yX6_counted yX6_counted, .initialized RX6, .code yX6_counted cX6_counted 2 (some .int), .fieldLink RX6 89 "BiteChildModel" "size" "I"] ++ wsX60)
def wsJ9_max_7cf53 : List Cond := .code yJ9_max_7cf53 cJ9_max_7cf53 2 (some .int) :: ([])
def wsJ9_min_7cf53 : List Cond := .code yJ9_min_7cf53 cJ9_min_7cf53 2 (some .int) :: ([])
def wsL_law_r1 : List Cond := [Cond.classLink RL 7 RX5, Cond.instantiable RX5 9, Cond.initialized RX5, Cond.classLink RL 10 RX6, Cond.instantiable RX6 19, Cond.initialized RX6, Cond.methodLink RL 9 yX5_init, Cond.instanceMethod yX5_init, Cond.code yX5_init cX5_init 2 none, Cond.methodLink RX5 1 objectInit, Cond.instanceMethod objectInit, Cond.code objectInit ⟨#[0xb1]⟩ 1 none, Cond.classLink RX5 7 RX2, Cond.instantiable RX2 3, Cond.initialized RX2, Cond.fieldLink RX5 10 "BiteChild" "scene" "LBiteChild$Scene;", Cond.fieldLink RX5 16 "BiteChild" "images" "[LBiteChild$Scene;", Cond.arrayClass .boolean, Cond.fieldLink RX5 20 "BiteChild" "imageKept" "[Z", Cond.classLink RX5 24 RX4, Cond.instantiable RX4 6, Cond.initialized RX4, Cond.fieldLink RX5 27 "BiteChild" "text" "LBiteChild$Text;", Cond.classLink RX5 31 RX3]
def wsL_law_r2 : List Cond := [Cond.instantiable RX3 10, Cond.initialized RX3, Cond.fieldLink RX5 34 "BiteChild" "trial" "LBiteChild$Table;", Cond.arrayClass .int, Cond.fieldLink RX5 38 "BiteChild" "seating" "[I", Cond.fieldLink RX5 42 "BiteChild" "refused" "[I", Cond.fieldLink RX5 45 "BiteChild" "above" "J", Cond.fieldLink RX5 49 "BiteChild" "below" "J", Cond.instanceMethod yX2_init, Cond.code yX2_init cX2_init 1 none, Cond.methodLink RX2 1 objectInit, Cond.classLink RX2 7 RX3, Cond.fieldLink RX2 10 "BiteChild$Scene" "table" "LBiteChild$Table;", Cond.classLink RX2 16 RX1, Cond.instantiable RX1 3, Cond.initialized RX1, Cond.fieldLink RX2 19 "BiteChild$Scene" "past" "LBiteChild$Past;", Cond.classLink RX2 23 RX0, Cond.instantiable RX0 2, Cond.initialized RX0, Cond.fieldLink RX2 26 "BiteChild$Scene" "notes" "LBiteChild$Notes;", Cond.instanceMethod yX3_init, Cond.code yX3_init cX3_init 1 none, Cond.methodLink RX3 3 objectInit]
def wsL_law_r3 : List Cond := [Cond.fieldLink RX3 9 "BiteChild$Table" "kind" "[I", Cond.fieldLink RX3 15 "BiteChild$Table" "seat" "[I", Cond.fieldLink RX3 18 "BiteChild$Table" "words" "[I", Cond.fieldLink RX3 21 "BiteChild$Table" "hunger" "[I", Cond.fieldLink RX3 24 "BiteChild$Table" "bitten" "[I", Cond.instanceMethod yX1_init, Cond.code yX1_init cX1_init 2 none, Cond.methodLink RX1 3 objectInit, Cond.classLink RX1 9 RX3, Cond.fieldLink RX1 11 "BiteChild$Past" "tables" "[LBiteChild$Table;", Cond.instanceMethod yX0_init, Cond.code yX0_init cX0_init 1 none, Cond.methodLink RX0 3 objectInit, Cond.fieldLink RX0 9 "BiteChild$Notes" "parts" "[I", Cond.instanceMethod yX4_init, Cond.code yX4_init cX4_init 1 none, Cond.methodLink RX4 3 objectInit, Cond.arrayClass .byte, Cond.fieldLink RX4 9 "BiteChild$Text" "bytes" "[B", Cond.methodLink RL 12 yX6_init, Cond.instanceMethod yX6_init, Cond.code yX6_init cX6_init 1 none, Cond.methodLink RX6 1 objectInit, Cond.fieldLink RX6 7 "BiteChildModel" "now" "[I"]
def wsL_law_r4 : List Cond := [Cond.fieldLink RX6 13 "BiteChildModel" "read" "[I", Cond.fieldLink RX6 16 "BiteChildModel" "aside" "[I", Cond.fieldLink RX6 19 "BiteChildModel" "images" "[I", Cond.fieldLink RX6 22 "BiteChildModel" "kept" "[Z", Cond.fieldLink RX6 26 "BiteChildModel" "text" "[I", Cond.fieldLink RX6 29 "BiteChildModel" "below" "J", Cond.fieldLink RX6 33 "BiteChildModel" "seats" "[I", Cond.fieldLink RX6 36 "BiteChildModel" "best" "[I", Cond.methodLink RX6 39 yX6_begins, Cond.static yX6_begins, Cond.code yX6_begins cX6_begins 3 none, Cond.methodLink RL 13 yX5_table, Cond.instanceMethod yX5_table, Cond.selects RX5 yX5_table yX5_table, Cond.code yX5_table cX5_table 3 (some .int), Cond.methodLink RX5 52 yX5_isSeat, Cond.static yX5_isSeat, Cond.code yX5_isSeat cX5_isSeat 1 (some .boolean), Cond.methodLink RX5 75 yX5_within, Cond.static yX5_within, Cond.code yX5_within cX5_within 3 (some .boolean), Cond.methodLink RX5 56 yX5_refuse, Cond.instanceMethod yX5_refuse, Cond.selects RX5 yX5_refuse yX5_refuse]
def wsL_law_r5 : List Cond := [Cond.code yX5_refuse cX5_refuse 3 (some .int), Cond.instanceMethod yX3_layAnew, Cond.selects RX3 yX3_layAnew yX3_layAnew, Cond.code yX3_layAnew cX3_layAnew 2 none, Cond.fieldLink RX3 27 "BiteChild$Table" "woman" "I", Cond.fieldLink RX3 31 "BiteChild$Table" "minute" "I", Cond.fieldLink RX3 34 "BiteChild$Table" "bites" "I", Cond.fieldLink RX3 37 "BiteChild$Table" "lately" "I", Cond.fieldLink RX3 40 "BiteChild$Table" "children" "I", Cond.instanceMethod yX2_beginWith, Cond.selects RX2 yX2_beginWith yX2_beginWith, Cond.code yX2_beginWith cX2_beginWith 2 none, Cond.instanceMethod yX3_copyFrom, Cond.selects RX3 yX3_copyFrom yX3_copyFrom, Cond.code yX3_copyFrom cX3_copyFrom 2 none, Cond.methodLink RX3 43 arraycopyName, Cond.native arraycopyName, Cond.static arraycopyName, Cond.initialized "java/lang/System", Cond.instanceMethod yX1_empty, Cond.selects RX1 yX1_empty yX1_empty, Cond.code yX1_empty cX1_empty 1 none, Cond.fieldLink RX1 18 "BiteChild$Past" "oldest" "I", Cond.fieldLink RX1 22 "BiteChild$Past" "size" "I"]
def wsL_law_r6 : List Cond := [Cond.methodLink RL 17 yX6_table, Cond.instanceMethod yX6_table, Cond.selects RX6 yX6_table yX6_table, Cond.code yX6_table cX6_table 3 (some .int), Cond.methodLink RX6 59 yX6_isSeat, Cond.static yX6_isSeat, Cond.code yX6_isSeat cX6_isSeat 1 (some .boolean), Cond.constantLong RX6 53 (7), Cond.methodLink RX6 55 yX6_in, Cond.static yX6_in, Cond.code yX6_in cX6_in 6 (some .boolean), Cond.methodLink RX6 63 yX6_bad, Cond.instanceMethod yX6_bad, Cond.selects RX6 yX6_bad yX6_bad, Cond.code yX6_bad cX6_bad 1 (some .int), Cond.fieldLink RX6 43 "BiteChildModel" "bads" "I", Cond.methodLink RL 18 yX5_child, Cond.instanceMethod yX5_child, Cond.selects RX5 yX5_child yX5_child, Cond.code yX5_child cX5_child 6 (some .int), Cond.instanceMethod yX3_childAt, Cond.selects RX3 yX3_childAt yX3_childAt, Cond.code yX3_childAt cX3_childAt 3 (some .int), Cond.instanceMethod yX3_addChild]
def wsL_law_r7 : List Cond := [Cond.selects RX3 yX3_addChild yX3_addChild, Cond.code yX3_addChild cX3_addChild 6 (some .int), Cond.methodLink RL 22 yX6_child, Cond.instanceMethod yX6_child, Cond.selects RX6 yX6_child yX6_child, Cond.code yX6_child cX6_child 5 (some .int), Cond.constantLong RX6 67 (5), Cond.constantLong RX6 69 (20), Cond.constantLong RX6 71 (30), Cond.methodLink RX6 73 yX6_whoIs, Cond.static yX6_whoIs, Cond.code yX6_whoIs cX6_whoIs 3 (some .int), Cond.methodLink RX6 77 yX6_no, Cond.instanceMethod yX6_no, Cond.selects RX6 yX6_no yX6_no, Cond.code yX6_no cX6_no 1 (some .int), Cond.fieldLink RX6 47 "BiteChildModel" "noes" "I", Cond.methodLink RX6 80 yX6_full, Cond.instanceMethod yX6_full, Cond.selects RX6 yX6_full yX6_full, Cond.code yX6_full cX6_full 1 (some .int), Cond.fieldLink RX6 50 "BiteChildModel" "fulls" "I", Cond.methodLink RX6 83 yX6_comes, Cond.static yX6_comes]
def wsL_law_r8 : List Cond := [Cond.code yX6_comes cX6_comes 6 none, Cond.methodLink RL 23 yX5_type, Cond.instanceMethod yX5_type, Cond.selects RX5 yX5_type yX5_type, Cond.code yX5_type cX5_type 2 (some .int), Cond.instanceMethod yX4_append, Cond.selects RX4 yX4_append yX4_append, Cond.code yX4_append cX4_append 2 (some .int), Cond.fieldLink RX4 15 "BiteChild$Text" "length" "I", Cond.methodLink RL 26 yX6_type, Cond.instanceMethod yX6_type, Cond.selects RX6 yX6_type yX6_type, Cond.code yX6_type cX6_type 2 (some .int), Cond.constantLong RX6 87 (127), Cond.fieldLink RX6 89 "BiteChildModel" "size" "I", Cond.methodLink RL 27 yX5_clear, Cond.instanceMethod yX5_clear, Cond.selects RX5 yX5_clear yX5_clear, Cond.code yX5_clear cX5_clear 2 (some .int), Cond.methodLink RL 31 yX6_clear, Cond.instanceMethod yX6_clear, Cond.selects RX6 yX6_clear yX6_clear, Cond.code yX6_clear cX6_clear 2 (some .int), Cond.methodLink RL 32 yX5_read]
def wsL_law_r9 : List Cond := [Cond.instanceMethod yX5_read, Cond.selects RX5 yX5_read yX5_read, Cond.code yX5_read cX5_read 2 (some .int), Cond.instanceMethod yX4_readInto, Cond.selects RX4 yX4_readInto yX4_readInto, Cond.code yX4_readInto cX4_readInto 4 (some .int), Cond.fieldLink RX4 25 "BiteChild$Text" "place" "I", Cond.fieldLink RX4 31 "BiteChild$Text" "token" "I", Cond.fieldLink RX4 44 "BiteChild$Text" "start" "I", Cond.methodLink RX4 28 yX4_nextToken, Cond.instanceMethod yX4_nextToken, Cond.selects RX4 yX4_nextToken yX4_nextToken, Cond.code yX4_nextToken cX4_nextToken 1 none, Cond.methodLink RX4 75 yX4_isLetter, Cond.static yX4_isLetter, Cond.code yX4_isLetter cX4_isLetter 1 (some .boolean), Cond.methodLink RX4 78 yX4_takeWord, Cond.instanceMethod yX4_takeWord, Cond.selects RX4 yX4_takeWord yX4_takeWord, Cond.code yX4_takeWord cX4_takeWord 1 none, Cond.methodLink RX4 89 yX4_isWord, Cond.instanceMethod yX4_isWord, Cond.selects RX4 yX4_isWord yX4_isWord, Cond.code yX4_isWord cX4_isWord 3 (some .boolean)]
def wsL_law_r10 : List Cond := [Cond.methodLink RX4 97 yJ0_length_8abf5, Cond.instanceMethod yJ0_length_8abf5, Cond.selects RJ0 yJ0_length_8abf5 yJ0_length_8abf5, Cond.initialized RJ0, Cond.code yJ0_length_8abf5 cJ0_length_8abf5 1 (some .int), Cond.fieldLink RJ0 9 "java/lang/String" "value" "[B", Cond.methodLink RJ0 335 yJ0_coder_7d493, Cond.instanceMethod yJ0_coder_7d493, Cond.selects RJ0 yJ0_coder_7d493 yJ0_coder_7d493, Cond.code yJ0_coder_7d493 cJ0_coder_7d493 1 (some .byte), Cond.fieldLink RJ0 38 "java/lang/String" "COMPACT_STRINGS" "Z", Cond.fieldLink RJ0 15 "java/lang/String" "coder" "B", Cond.methodLink RX4 102 yJ0_charAt_5068e, Cond.instanceMethod yJ0_charAt_5068e, Cond.selects RJ0 yJ0_charAt_5068e yJ0_charAt_5068e, Cond.code yJ0_charAt_5068e cJ0_charAt_5068e 2 (some .char), Cond.methodLink RJ0 492 yJ0_isLatin1_aae02, Cond.instanceMethod yJ0_isLatin1_aae02, Cond.selects RJ0 yJ0_isLatin1_aae02 yJ0_isLatin1_aae02, Cond.code yJ0_isLatin1_aae02 cJ0_isLatin1_aae02 1 (some .boolean), Cond.methodLink RJ0 495 yJ1_charAt_3b067, Cond.static yJ1_charAt_3b067, Cond.initialized RJ1, Cond.code yJ1_charAt_3b067 cJ1_charAt_3b067 2 (some .char)]
def wsL_law_r11 : List Cond := [Cond.methodLink RJ1 9 yJ0_checkIndex_df160, Cond.static yJ0_checkIndex_df160, Cond.code yJ0_checkIndex_df160 cJ0_checkIndex_df160 2 none, Cond.fieldLink RJ0 1053 "jdk/internal/util/Preconditions" "SIOOBE_FORMATTER" "Ljava/util/function/BiFunction;", Cond.methodLink RJ0 1059 yJ3_checkIndex_8e157, Cond.static yJ3_checkIndex_8e157, Cond.initialized RJ3, Cond.code yJ3_checkIndex_8e157 cJ3_checkIndex_8e157 3 (some .int), Cond.methodLink RJ0 498 yJ2_charAt_3b067, Cond.static yJ2_charAt_3b067, Cond.initialized RJ2, Cond.code yJ2_charAt_3b067 cJ2_charAt_3b067 2 (some .char), Cond.methodLink RJ2 67 yJ2_checkIndex_2214a, Cond.static yJ2_checkIndex_2214a, Cond.code yJ2_checkIndex_2214a cJ2_checkIndex_2214a 2 none, Cond.methodLink RJ2 48 yJ2_length_9d52b, Cond.static yJ2_length_9d52b, Cond.code yJ2_length_9d52b cJ2_length_9d52b 1 (some .int), Cond.methodLink RJ2 414 yJ0_checkIndex_df160, Cond.methodLink RJ2 71 yJ2_getChar_3b067, Cond.static yJ2_getChar_3b067, Cond.code yJ2_getChar_3b067 cJ2_getChar_3b067 2 (some .char), Cond.fieldLink RJ2 44 "java/lang/StringUTF16" "$assertionsDisabled" "Z", Cond.fieldLink RJ2 59 "java/lang/StringUTF16" "HI_BYTE_SHIFT" "I"]
def wsL_law_r12 : List Cond := [Cond.fieldLink RJ2 63 "java/lang/StringUTF16" "LO_BYTE_SHIFT" "I", Cond.methodLink RX4 81 yX4_isFigure, Cond.static yX4_isFigure, Cond.code yX4_isFigure cX4_isFigure 1 (some .boolean), Cond.methodLink RX4 84 yX4_takeFigures, Cond.instanceMethod yX4_takeFigures, Cond.selects RX4 yX4_takeFigures yX4_takeFigures, Cond.code yX4_takeFigures cX4_takeFigures 1 none, Cond.fieldLink RX4 51 "BiteChild$Text" "value" "I", Cond.methodLink RX4 34 yX4_readWoman, Cond.instanceMethod yX4_readWoman, Cond.selects RX4 yX4_readWoman yX4_readWoman, Cond.code yX4_readWoman cX4_readWoman 2 (some .boolean), Cond.methodLink RX4 47 yX4_nextNumber, Cond.instanceMethod yX4_nextNumber, Cond.selects RX4 yX4_nextNumber yX4_nextNumber, Cond.code yX4_nextNumber cX4_nextNumber 2 (some .boolean), Cond.methodLink RX4 57 yX4_nextMark, Cond.instanceMethod yX4_nextMark, Cond.selects RX4 yX4_nextMark yX4_nextMark, Cond.code yX4_nextMark cX4_nextMark 1 (some .boolean), Cond.methodLink RX4 38 yX4_readChild, Cond.instanceMethod yX4_readChild, Cond.selects RX4 yX4_readChild yX4_readChild]
def wsL_law_r13 : List Cond := [Cond.code yX4_readChild cX4_readChild 5 (some .boolean), Cond.methodLink RX4 41 yX4_readCarrot, Cond.instanceMethod yX4_readCarrot, Cond.selects RX4 yX4_readCarrot yX4_readCarrot, Cond.code yX4_readCarrot cX4_readCarrot 2 (some .boolean), Cond.instanceMethod yX3_giveCarrot, Cond.selects RX3 yX3_giveCarrot yX3_giveCarrot, Cond.code yX3_giveCarrot cX3_giveCarrot 2 (some .int), Cond.methodLink RX3 84 Lib.Math.max.name, Cond.static Lib.Math.max.name, Cond.initialized "java/lang/Math", Cond.code Lib.Math.max.name Lib.Math.max.code 2 (some .int), Cond.methodLink RL 35 yX6_read, Cond.instanceMethod yX6_read, Cond.selects RX6 yX6_read yX6_read, Cond.code yX6_read cX6_read 2 (some .int), Cond.fieldLink RX6 92 "BiteChildModel" "at" "I", Cond.fieldLink RX6 115 "BiteChildModel" "token" "I", Cond.fieldLink RX6 98 "BiteChildModel" "begin" "I", Cond.methodLink RX6 122 yX6_step, Cond.instanceMethod yX6_step, Cond.selects RX6 yX6_step yX6_step, Cond.code yX6_step cX6_step 2 none, Cond.fieldLink RX6 101 "BiteChildModel" "word" "J"]
def wsL_law_r14 : List Cond := [Cond.fieldLink RX6 104 "BiteChildModel" "value" "I", Cond.constantLong RX6 107 (97), Cond.constantLong RX6 109 (122), Cond.constantLong RX6 111 (48), Cond.constantLong RX6 113 (57), Cond.constantLong RX6 118 (256), Cond.constantLong RX6 120 (-1), Cond.methodLink RX6 95 yX6_here, Cond.instanceMethod yX6_here, Cond.selects RX6 yX6_here yX6_here, Cond.code yX6_here cX6_here 1 (some .int), Cond.methodLink RX6 148 yX6_readsItem, Cond.instanceMethod yX6_readsItem, Cond.selects RX6 yX6_readsItem yX6_readsItem, Cond.code yX6_readsItem cX6_readsItem 4 (some .boolean), Cond.constantLong RX6 132 (499850046565), Cond.constantLong RX6 138 (426953501796), Cond.constantLong RX6 143 (109270183079796), Cond.methodLink RX6 134 yX6_readsTable, Cond.instanceMethod yX6_readsTable, Cond.selects RX6 yX6_readsTable yX6_readsTable, Cond.code yX6_readsTable cX6_readsTable 1 (some .boolean), Cond.methodLink RX6 125 yX6_number, Cond.instanceMethod yX6_number]
def wsL_law_r15 : List Cond := [Cond.selects RX6 yX6_number yX6_number, Cond.code yX6_number cX6_number 2 (some .boolean), Cond.methodLink RX6 140 yX6_readsChild, Cond.instanceMethod yX6_readsChild, Cond.selects RX6 yX6_readsChild yX6_readsChild, Cond.code yX6_readsChild cX6_readsChild 4 (some .boolean), Cond.methodLink RX6 145 yX6_readsCarrot, Cond.instanceMethod yX6_readsCarrot, Cond.selects RX6 yX6_readsCarrot yX6_readsCarrot, Cond.code yX6_readsCarrot cX6_readsCarrot 1 (some .boolean), Cond.methodLink RX6 128 yX6_lesser, Cond.static yX6_lesser, Cond.code yX6_lesser cX6_lesser 2 (some .int), Cond.methodLink RX6 152 yX6_copies, Cond.static yX6_copies, Cond.code yX6_copies cX6_copies 6 none, Cond.methodLink RL 36 yX5_minute, Cond.instanceMethod yX5_minute, Cond.selects RX5 yX5_minute yX5_minute, Cond.code yX5_minute cX5_minute 2 (some .int), Cond.methodLink RX5 111 Lib.Math.min.name, Cond.static Lib.Math.min.name, Cond.code Lib.Math.min.name Lib.Math.min.code 2 (some .int), Cond.instanceMethod yX1_keep]
def wsL_law_r16 : List Cond := [Cond.selects RX1 yX1_keep yX1_keep, Cond.code yX1_keep cX1_keep 2 none, Cond.instanceMethod yX3_passMinutes, Cond.selects RX3 yX3_passMinutes yX3_passMinutes, Cond.code yX3_passMinutes cX3_passMinutes 4 (some .int), Cond.methodLink RX3 89 yX3_passMinute, Cond.instanceMethod yX3_passMinute, Cond.selects RX3 yX3_passMinute yX3_passMinute, Cond.code yX3_passMinute cX3_passMinute 3 (some .int), Cond.methodLink RX3 98 Lib.Math.min.name, Cond.methodLink RX3 92 yX3_biters, Cond.instanceMethod yX3_biters, Cond.selects RX3 yX3_biters yX3_biters, Cond.code yX3_biters cX3_biters 5 (some .int), Cond.methodLink RX3 56 yX3_takenSeats, Cond.instanceMethod yX3_takenSeats, Cond.selects RX3 yX3_takenSeats yX3_takenSeats, Cond.code yX3_takenSeats cX3_takenSeats 3 (some .int), Cond.methodLink RX3 60 yX3_tightIn, Cond.static yX3_tightIn, Cond.code yX3_tightIn cX3_tightIn 2 (some .int), Cond.methodLink RX3 49 yX3_nextSeat, Cond.static yX3_nextSeat, Cond.code yX3_nextSeat cX3_nextSeat 1 (some .int)]
def wsL_law_r17 : List Cond := [Cond.methodLink RX3 53 yX3_seatAhead, Cond.static yX3_seatAhead, Cond.code yX3_seatAhead cX3_seatAhead 1 (some .int), Cond.methodLink RX3 77 yX3_isGuarded, Cond.instanceMethod yX3_isGuarded, Cond.selects RX3 yX3_isGuarded yX3_isGuarded, Cond.code yX3_isGuarded cX3_isGuarded 2 (some .boolean), Cond.methodLink RX3 71 yX3_nearIf, Cond.instanceMethod yX3_nearIf, Cond.selects RX3 yX3_nearIf yX3_nearIf, Cond.code yX3_nearIf cX3_nearIf 3 (some .int), Cond.static yX5_near, Cond.code yX5_near cX5_near 9 (some .int), Cond.methodLink RX5 245 Lib.Math.max.name, Cond.methodLink RX3 95 yX3_timesBitten, Cond.instanceMethod yX3_timesBitten, Cond.selects RX3 yX3_timesBitten yX3_timesBitten, Cond.code yX3_timesBitten cX3_timesBitten 5 (some .int), Cond.methodLink RX3 81 yX3_whomOf, Cond.instanceMethod yX3_whomOf, Cond.selects RX3 yX3_whomOf yX3_whomOf, Cond.code yX3_whomOf cX3_whomOf 3 (some .int), Cond.methodLink RX3 74 yX3_childAt, Cond.methodLink RX3 101 yJ6_bitCount_0f7a4]
def wsL_law_r18 : List Cond := [Cond.static yJ6_bitCount_0f7a4, Cond.initialized RJ6, Cond.code yJ6_bitCount_0f7a4 cJ6_bitCount_0f7a4 1 (some .int), Cond.constant RJ6 265 (1431655765), Cond.constant RJ6 266 (858993459), Cond.constant RJ6 267 (252645135), Cond.methodLink RL 39 yX6_minute, Cond.instanceMethod yX6_minute, Cond.selects RX6 yX6_minute yX6_minute, Cond.code yX6_minute cX6_minute 4 (some .int), Cond.constantLong RX6 188 (60), Cond.methodLink RX6 190 yX6_remember, Cond.instanceMethod yX6_remember, Cond.selects RX6 yX6_remember yX6_remember, Cond.code yX6_remember cX6_remember 2 none, Cond.methodLink RX6 193 yX6_goes, Cond.static yX6_goes, Cond.code yX6_goes cX6_goes 3 none, Cond.methodLink RX6 176 yX6_biters, Cond.static yX6_biters, Cond.code yX6_biters cX6_biters 3 (some .int), Cond.methodLink RX6 173 yX6_bites, Cond.static yX6_bites, Cond.code yX6_bites cX6_bites 2 (some .boolean)]
def wsL_law_r19 : List Cond := [Cond.methodLink RX6 163 yX6_nearOf, Cond.static yX6_nearOf, Cond.code yX6_nearOf cX6_nearOf 2 (some .int), Cond.methodLink RX6 156 yX6_tight, Cond.static yX6_tight, Cond.code yX6_tight cX6_tight 4 (some .int), Cond.methodLink RX6 159 yX6_nearAs, Cond.static yX6_nearAs, Cond.code yX6_nearAs cX6_nearAs 8 (some .int), Cond.methodLink RX6 166 yX6_isGuarded, Cond.static yX6_isGuarded, Cond.code yX6_isGuarded cX6_isGuarded 3 (some .boolean), Cond.methodLink RX6 170 yX6_whom, Cond.static yX6_whom, Cond.code yX6_whom cX6_whom 3 (some .int), Cond.methodLink RX6 180 yX6_has, Cond.static yX6_has, Cond.code yX6_has cX6_has 2 (some .boolean), Cond.methodLink RX6 184 yX6_bits, Cond.static yX6_bits, Cond.code yX6_bits cX6_bits 3 (some .int), Cond.methodLink RL 40 yX5_carrot, Cond.instanceMethod yX5_carrot, Cond.selects RX5 yX5_carrot yX5_carrot]
def wsL_law_r20 : List Cond := [Cond.code yX5_carrot cX5_carrot 2 (some .int), Cond.methodLink RX5 120 yX5_isChild, Cond.instanceMethod yX5_isChild, Cond.selects RX5 yX5_isChild yX5_isChild, Cond.code yX5_isChild cX5_isChild 2 (some .boolean), Cond.methodLink RL 43 yX6_carrot, Cond.instanceMethod yX6_carrot, Cond.selects RX6 yX6_carrot yX6_carrot, Cond.code yX6_carrot cX6_carrot 2 (some .int), Cond.methodLink RX6 197 yX6_isChild, Cond.instanceMethod yX6_isChild, Cond.selects RX6 yX6_isChild yX6_isChild, Cond.code yX6_isChild cX6_isChild 2 (some .boolean), Cond.methodLink RL 44 yX5_moves, Cond.instanceMethod yX5_moves, Cond.selects RX5 yX5_moves yX5_moves, Cond.code yX5_moves cX5_moves 5 (some .int), Cond.methodLink RL 48 yX6_moves, Cond.instanceMethod yX6_moves, Cond.selects RX6 yX6_moves yX6_moves, Cond.code yX6_moves cX6_moves 5 (some .int), Cond.methodLink RL 49 yX5_woman, Cond.instanceMethod yX5_woman, Cond.selects RX5 yX5_woman yX5_woman]
def wsL_law_r21 : List Cond := [Cond.code yX5_woman cX5_woman 3 (some .int), Cond.methodLink RL 52 yX6_woman, Cond.instanceMethod yX6_woman, Cond.selects RX6 yX6_woman yX6_woman, Cond.code yX6_woman cX6_woman 3 (some .int), Cond.methodLink RL 53 yX5_undo, Cond.instanceMethod yX5_undo, Cond.selects RX5 yX5_undo yX5_undo, Cond.code yX5_undo cX5_undo 1 (some .int), Cond.instanceMethod yX1_giveBack, Cond.selects RX1 yX1_giveBack yX1_giveBack, Cond.code yX1_giveBack cX1_giveBack 2 none, Cond.methodLink RL 56 yX6_undo, Cond.instanceMethod yX6_undo, Cond.selects RX6 yX6_undo yX6_undo, Cond.code yX6_undo cX6_undo 1 (some .int), Cond.methodLink RL 57 yX5_of, Cond.instanceMethod yX5_of, Cond.selects RX5 yX5_of yX5_of, Cond.code yX5_of cX5_of 3 (some .int), Cond.instanceMethod yX3_tightOf, Cond.selects RX3 yX3_tightOf yX3_tightOf, Cond.code yX3_tightOf cX3_tightOf 2 (some .int), Cond.instanceMethod yX3_partOf]
def wsL_law_r22 : List Cond := [Cond.selects RX3 yX3_partOf yX3_partOf, Cond.code yX3_partOf cX3_partOf 3 (some .int), Cond.methodLink RL 60 yX6_of, Cond.instanceMethod yX6_of, Cond.selects RX6 yX6_of yX6_of, Cond.code yX6_of cX6_of 3 (some .int), Cond.methodLink RL 61 yX5_now, Cond.instanceMethod yX5_now, Cond.selects RX5 yX5_now yX5_now, Cond.code yX5_now cX5_now 3 (some .int), Cond.instanceMethod yX3_nearOf, Cond.selects RX3 yX3_nearOf yX3_nearOf, Cond.code yX3_nearOf cX3_nearOf 2 (some .int), Cond.methodLink RX3 68 yX3_tightOf, Cond.methodLink RL 64 yX6_now, Cond.instanceMethod yX6_now, Cond.selects RX6 yX6_now yX6_now, Cond.code yX6_now cX6_now 3 (some .int), Cond.constantLong RX6 200 (2), Cond.methodLink RX6 202 yX6_worse, Cond.instanceMethod yX6_worse, Cond.selects RX6 yX6_worse yX6_worse, Cond.code yX6_worse cX6_worse 1 (some .int), Cond.methodLink RL 65 yX5_then]
def wsL_law_r23 : List Cond := [Cond.instanceMethod yX5_then, Cond.selects RX5 yX5_then yX5_then, Cond.code yX5_then cX5_then 3 (some .int), Cond.methodLink RL 68 yX6_then, Cond.instanceMethod yX6_then, Cond.selects RX6 yX6_then yX6_then, Cond.code yX6_then cX6_then 4 (some .int), Cond.methodLink RX6 205 yX6_layAside, Cond.instanceMethod yX6_layAside, Cond.selects RX6 yX6_layAside yX6_layAside, Cond.code yX6_layAside cX6_layAside 1 none, Cond.methodLink RX6 208 yX6_bitesIn, Cond.instanceMethod yX6_bitesIn, Cond.selects RX6 yX6_bitesIn yX6_bitesIn, Cond.code yX6_bitesIn cX6_bitesIn 4 (some .int), Cond.methodLink RL 69 yX5_quiet, Cond.instanceMethod yX5_quiet, Cond.selects RX5 yX5_quiet yX5_quiet, Cond.code yX5_quiet cX5_quiet 2 (some .int), Cond.methodLink RL 72 yX6_quiet, Cond.instanceMethod yX6_quiet, Cond.selects RX6 yX6_quiet yX6_quiet, Cond.code yX6_quiet cX6_quiet 2 (some .int), Cond.methodLink RL 73 yX5_stand]
def wsL_law_r24 : List Cond := [Cond.instanceMethod yX5_stand, Cond.selects RX5 yX5_stand yX5_stand, Cond.code yX5_stand cX5_stand 7 (some .int), Cond.methodLink RL 76 yX6_stand, Cond.instanceMethod yX6_stand, Cond.selects RX6 yX6_stand yX6_stand, Cond.code yX6_stand cX6_stand 7 (some .int), Cond.constant RX6 211 (1000000), Cond.methodLink RL 77 yX5_helps, Cond.instanceMethod yX5_helps, Cond.selects RX5 yX5_helps yX5_helps, Cond.code yX5_helps cX5_helps 6 (some .int), Cond.methodLink RX5 166 yX5_bitesWithCarrot, Cond.instanceMethod yX5_bitesWithCarrot, Cond.selects RX5 yX5_bitesWithCarrot yX5_bitesWithCarrot, Cond.code yX5_bitesWithCarrot cX5_bitesWithCarrot 4 (some .int), Cond.methodLink RL 80 yX6_helps, Cond.instanceMethod yX6_helps, Cond.selects RX6 yX6_helps yX6_helps, Cond.code yX6_helps cX6_helps 6 (some .int), Cond.methodLink RL 81 yX5_seated, Cond.instanceMethod yX5_seated, Cond.selects RX5 yX5_seated yX5_seated, Cond.code yX5_seated cX5_seated 4 (some .int)]
def wsL_law_r25 : List Cond := [Cond.methodLink RX5 169 yX5_seatRest, Cond.static yX5_seatRest, Cond.code yX5_seatRest cX5_seatRest 8 (some .int), Cond.methodLink RX5 230 arraycopyName, Cond.methodLink RX5 200 yJ6_bitCount_0f7a4, Cond.methodLink RL 84 yX6_seated, Cond.instanceMethod yX6_seated, Cond.selects RX6 yX6_seated yX6_seated, Cond.code yX6_seated cX6_seated 3 (some .int), Cond.methodLink RX6 212 yX6_seatsAll, Cond.instanceMethod yX6_seatsAll, Cond.selects RX6 yX6_seatsAll yX6_seatsAll, Cond.code yX6_seatsAll cX6_seatsAll 5 (some .int), Cond.methodLink RL 85 yX5_words, Cond.instanceMethod yX5_words, Cond.selects RX5 yX5_words yX5_words, Cond.code yX5_words cX5_words 3 (some .int), Cond.methodLink RL 88 yX6_words, Cond.instanceMethod yX6_words, Cond.selects RX6 yX6_words yX6_words, Cond.code yX6_words cX6_words 3 (some .int), Cond.methodLink RL 89 yX5_say, Cond.instanceMethod yX5_say, Cond.selects RX5 yX5_say yX5_say]
def wsL_law_r26 : List Cond := [Cond.code yX5_say cX5_say 5 (some .int), Cond.methodLink RL 92 yX6_say, Cond.instanceMethod yX6_say, Cond.selects RX6 yX6_say yX6_say, Cond.code yX6_say cX6_say 5 (some .int), Cond.methodLink RL 93 yX5_note, Cond.instanceMethod yX5_note, Cond.selects RX5 yX5_note yX5_note, Cond.code yX5_note cX5_note 9 (some .int), Cond.instanceMethod yX0_add, Cond.selects RX0 yX0_add yX0_add, Cond.code yX0_add cX0_add 9 (some .int), Cond.fieldLink RX0 15 "BiteChild$Notes" "size" "I", Cond.methodLink RL 97 yX6_note, Cond.instanceMethod yX6_note, Cond.selects RX6 yX6_note yX6_note, Cond.code yX6_note cX6_note 9 (some .int), Cond.constantLong RX6 215 (9), Cond.constantLong RX6 217 (6), Cond.methodLink RL 98 yX5_forget, Cond.instanceMethod yX5_forget, Cond.selects RX5 yX5_forget yX5_forget, Cond.code yX5_forget cX5_forget 2 (some .int), Cond.methodLink RL 101 yX6_forget]
def wsL_law_r27 : List Cond := [Cond.instanceMethod yX6_forget, Cond.selects RX6 yX6_forget yX6_forget, Cond.code yX6_forget cX6_forget 2 (some .int), Cond.methodLink RL 102 yX5_is, Cond.instanceMethod yX5_is, Cond.selects RX5 yX5_is yX5_is, Cond.code yX5_is cX5_is 2 (some .int), Cond.instanceMethod yX0_kindsOf, Cond.selects RX0 yX0_kindsOf yX0_kindsOf, Cond.code yX0_kindsOf cX0_kindsOf 5 (some .int), Cond.static yX5_kindsSoNear, Cond.code yX5_kindsSoNear cX5_kindsSoNear 8 (some .int), Cond.methodLink RX5 239 yX5_near, Cond.methodLink RL 105 yX6_is, Cond.instanceMethod yX6_is, Cond.selects RX6 yX6_is yX6_is, Cond.code yX6_is cX6_is 2 (some .int), Cond.methodLink RX6 219 yX6_kindsOf, Cond.instanceMethod yX6_kindsOf, Cond.selects RX6 yX6_kindsOf yX6_kindsOf, Cond.code yX6_kindsOf cX6_kindsOf 6 (some .int), Cond.methodLink RL 106 yX5_look, Cond.instanceMethod yX5_look, Cond.selects RX5 yX5_look yX5_look]
def wsL_law_r28 : List Cond := [Cond.code yX5_look cX5_look 9 (some .int), Cond.methodLink RX5 193 yX5_mostAlike, Cond.static yX5_mostAlike, Cond.code yX5_mostAlike cX5_mostAlike 9 (some .int), Cond.methodLink RX5 242 yX5_kindsSoNear, Cond.methodLink RL 109 yX6_look, Cond.instanceMethod yX6_look, Cond.selects RX6 yX6_look yX6_look, Cond.code yX6_look cX6_look 7 (some .int), Cond.methodLink RX6 222 yX6_alike, Cond.instanceMethod yX6_alike, Cond.selects RX6 yX6_alike yX6_alike, Cond.code yX6_alike cX6_alike 11 (some .int), Cond.methodLink RL 110 yX5_who, Cond.instanceMethod yX5_who, Cond.selects RX5 yX5_who yX5_who, Cond.code yX5_who cX5_who 4 (some .int), Cond.methodLink RL 113 yX6_who, Cond.instanceMethod yX6_who, Cond.selects RX6 yX6_who yX6_who, Cond.code yX6_who cX6_who 4 (some .int), Cond.methodLink RL 114 yX5_rings, Cond.instanceMethod yX5_rings, Cond.selects RX5 yX5_rings yX5_rings]
def wsL_law_r29 : List Cond := [Cond.code yX5_rings cX5_rings 7 (some .int), Cond.methodLink RX5 197 yX5_ringGain, Cond.instanceMethod yX5_ringGain, Cond.selects RX5 yX5_ringGain yX5_ringGain, Cond.code yX5_ringGain cX5_ringGain 9 (some .int), Cond.methodLink RL 117 yX6_rings, Cond.instanceMethod yX6_rings, Cond.selects RX6 yX6_rings yX6_rings, Cond.code yX6_rings cX6_rings 7 (some .int), Cond.methodLink RX6 225 yX6_gets, Cond.instanceMethod yX6_gets, Cond.selects RX6 yX6_gets yX6_gets, Cond.code yX6_gets cX6_gets 6 (some .int), Cond.methodLink RL 118 yX5_eyes, Cond.instanceMethod yX5_eyes, Cond.selects RX5 yX5_eyes yX5_eyes, Cond.code yX5_eyes cX5_eyes 4 (some .int), Cond.methodLink RL 121 yX6_eyes, Cond.instanceMethod yX6_eyes, Cond.selects RX6 yX6_eyes yX6_eyes, Cond.code yX6_eyes cX6_eyes 10 (some .int), Cond.constantLong RX6 228 (10), Cond.fieldLink RX6 230 "BiteChildModel" "above" "J", Cond.methodLink RL 122 yX5_weeks]
def wsL_law_r30 : List Cond := [Cond.instanceMethod yX5_weeks, Cond.selects RX5 yX5_weeks yX5_weeks, Cond.code yX5_weeks cX5_weeks 8 (some .int), Cond.constant RX5 205 (999999), Cond.constantLong RX5 206 (1103515245), Cond.constantLong RX5 208 (12345), Cond.constantLong RX5 210 (2147483648), Cond.constantLong RX5 212 (65536), Cond.constantLong RX5 214 (31), Cond.methodLink RL 125 yX6_weeks, Cond.instanceMethod yX6_weeks, Cond.selects RX6 yX6_weeks yX6_weeks, Cond.code yX6_weeks cX6_weeks 8 (some .int), Cond.constantLong RX6 233 (999999), Cond.constantLong RX6 235 (1103515245), Cond.constantLong RX6 237 (12345), Cond.constantLong RX6 239 (2147483648), Cond.constantLong RX6 241 (65536), Cond.constantLong RX6 243 (31), Cond.methodLink RL 126 yX5_part, Cond.instanceMethod yX5_part, Cond.selects RX5 yX5_part yX5_part, Cond.code yX5_part cX5_part 2 (some .long), Cond.methodLink RL 130 yX6_part]
def wsL_law_r31 : List Cond := [Cond.instanceMethod yX6_part, Cond.selects RX6 yX6_part yX6_part, Cond.code yX6_part cX6_part 2 (some .long), Cond.methodLink RL 131 yX5_image, Cond.instanceMethod yX5_image, Cond.selects RX5 yX5_image yX5_image, Cond.code yX5_image cX5_image 2 (some .int), Cond.instanceMethod yX2_copyFrom, Cond.selects RX2 yX2_copyFrom yX2_copyFrom, Cond.code yX2_copyFrom cX2_copyFrom 2 none, Cond.instanceMethod yX1_copyFrom, Cond.selects RX1 yX1_copyFrom yX1_copyFrom, Cond.code yX1_copyFrom cX1_copyFrom 3 none, Cond.instanceMethod yX0_copyFrom, Cond.selects RX0 yX0_copyFrom yX0_copyFrom, Cond.code yX0_copyFrom cX0_copyFrom 2 none, Cond.methodLink RX0 23 arraycopyName, Cond.methodLink RL 134 yX6_image, Cond.instanceMethod yX6_image, Cond.selects RX6 yX6_image yX6_image, Cond.code yX6_image cX6_image 2 (some .int), Cond.methodLink RL 135 yX5_from, Cond.instanceMethod yX5_from, Cond.selects RX5 yX5_from yX5_from]
def wsL_law_r32 : List Cond := [Cond.code yX5_from cX5_from 2 (some .int), Cond.methodLink RL 138 yX6_from, Cond.instanceMethod yX6_from, Cond.selects RX6 yX6_from yX6_from, Cond.code yX6_from cX6_from 2 (some .int), Cond.methodLink RL 139 yX5_status, Cond.instanceMethod yX5_status, Cond.selects RX5 yX5_status yX5_status, Cond.code yX5_status cX5_status 2 (some .int), Cond.methodLink RL 142 yX6_status, Cond.instanceMethod yX6_status, Cond.selects RX6 yX6_status yX6_status, Cond.code yX6_status cX6_status 2 (some .int), Cond.methodLink RL 143 yX5_count, Cond.instanceMethod yX5_count, Cond.selects RX5 yX5_count yX5_count, Cond.code yX5_count cX5_count 2 (some .int), Cond.methodLink RX5 219 yX5_howMany, Cond.instanceMethod yX5_howMany, Cond.selects RX5 yX5_howMany yX5_howMany, Cond.code yX5_howMany cX5_howMany 2 (some .int), Cond.methodLink RL 146 yX6_count, Cond.instanceMethod yX6_count, Cond.selects RX6 yX6_count yX6_count]
def wsL_law_r33 : List Cond := [Cond.code yX6_count cX6_count 2 (some .int), Cond.methodLink RX6 245 yX6_counted, Cond.instanceMethod yX6_counted, Cond.selects RX6 yX6_counted yX6_counted, Cond.code yX6_counted cX6_counted 2 (some .int), Cond.methodLink RL 147 yX5_digest, Cond.instanceMethod yX5_digest, Cond.selects RX5 yX5_digest yX5_digest, Cond.code yX5_digest cX5_digest 5 (some .long), Cond.constantLong RX5 222 (1429), Cond.methodLink RL 151 yX6_digest, Cond.instanceMethod yX6_digest, Cond.selects RX6 yX6_digest yX6_digest, Cond.code yX6_digest cX6_digest 4 (some .long), Cond.constantLong RX6 248 (1429)]
def wsL_law : List Cond := (wsL_law_r1 ++ (wsL_law_r2 ++ (wsL_law_r3 ++ (wsL_law_r4 ++ (wsL_law_r5 ++ (wsL_law_r6 ++ (wsL_law_r7 ++ (wsL_law_r8 ++ (wsL_law_r9 ++ (wsL_law_r10 ++ (wsL_law_r11 ++ (wsL_law_r12 ++ (wsL_law_r13 ++ (wsL_law_r14 ++ (wsL_law_r15 ++ (wsL_law_r16 ++ (wsL_law_r17 ++ (wsL_law_r18 ++ (wsL_law_r19 ++ (wsL_law_r20 ++ (wsL_law_r21 ++ (wsL_law_r22 ++ (wsL_law_r23 ++ (wsL_law_r24 ++ (wsL_law_r25 ++ (wsL_law_r26 ++ (wsL_law_r27 ++ (wsL_law_r28 ++ (wsL_law_r29 ++ (wsL_law_r30 ++ (wsL_law_r31 ++ (wsL_law_r32 ++ wsL_law_r33)))))))))))))))))))))))))))))))) ++ wsX50 ++ wsX60 ++ wsX20 ++ wsX40 ++ wsX30 ++ wsX10 ++ wsX00 ++ ([] : List Cond)
set_option maxRecDepth 20000 in
theorem wsL_law_in : ∀ w ∈ wsL_law, w ∈ lw_tbl := fun w h => (goodIn_p wsL_law [80, 83, 88, 94, 143, 163, 193, 673, 677, 250, 253, 256, 260, 264, 268, 272, 279, 739, 742, 746, 750, 283, 287, 292, 754, 760, 764, 768, 771, 296, 300, 775, 304, 780, 308, 312, 317, 320, 324, 329, 333, 337, 343, 347, 350, 353, 358, 361, 364, 367, 371, 382, 386, 390, 394, 398, 402, 408, 412, 415, 784, 788, 792, 802, 807, 811, 816, 821, 824, 827, 419, 427, 423, 431, 435, 439, 443, 446, 449, 452, 456, 460, 463, 468, 472, 477, 831, 836, 839, 842, 845, 848, 851, 854, 857, 860, 863, 866, 484, 488, 870, 874, 493, 878, 497, 882, 501, 505, 886, 509, 513, 517, 890, 521, 525, 894, 899, 532, 903, 907, 911, 537, 915, 542, 919, 546, 550, 924, 554, 557, 928, 932, 563, 936, 567, 940, 571, 575, 944, 579, 950, 583, 587, 590, 954, 958, 595, 598, 962, 966, 603, 970, 607, 611, 974, 978, 616, 982, 620, 987, 630, 997, 634, 638, 642, 646, 1001, 651, 1005, 655, 1009, 659, 663, 1013, 1017, 667, 1021] (by decide +kernel) (by decide +kernel) w h).1
theorem inlX0 : ∀ w ∈ wsX00, w ∈ wsL_law := fun _ h => List.mem_append_left _ (List.mem_append_right _ h)
theorem inX0 : ∀ w ∈ wsX00, w ∈ lw_tbl := fun w h => wsL_law_in w (inlX0 w h)
theorem inlX1 : ∀ w ∈ wsX10, w ∈ wsL_law := fun _ h => List.mem_append_left _ (List.mem_append_left _ (List.mem_append_right _ h))
theorem inX1 : ∀ w ∈ wsX10, w ∈ lw_tbl := fun w h => wsL_law_in w (inlX1 w h)
theorem inlX2 : ∀ w ∈ wsX20, w ∈ wsL_law := fun _ h => List.mem_append_left _ (List.mem_append_left _ (List.mem_append_left _ (List.mem_append_left _ (List.mem_append_left _ (List.mem_append_right _ h)))))
theorem inX2 : ∀ w ∈ wsX20, w ∈ lw_tbl := fun w h => wsL_law_in w (inlX2 w h)
theorem inlX3 : ∀ w ∈ wsX30, w ∈ wsL_law := fun _ h => List.mem_append_left _ (List.mem_append_left _ (List.mem_append_left _ (List.mem_append_right _ h)))
theorem inX3 : ∀ w ∈ wsX30, w ∈ lw_tbl := fun w h => wsL_law_in w (inlX3 w h)
theorem inlX4 : ∀ w ∈ wsX40, w ∈ wsL_law := fun _ h => List.mem_append_left _ (List.mem_append_left _ (List.mem_append_left _ (List.mem_append_left _ (List.mem_append_right _ h))))
theorem inX4 : ∀ w ∈ wsX40, w ∈ lw_tbl := fun w h => wsL_law_in w (inlX4 w h)
theorem inlX5 : ∀ w ∈ wsX50, w ∈ wsL_law := fun _ h => List.mem_append_left _ (List.mem_append_left _ (List.mem_append_left _ (List.mem_append_left _ (List.mem_append_left _ (List.mem_append_left _ (List.mem_append_left _ (List.mem_append_right _ h)))))))
theorem inX5 : ∀ w ∈ wsX50, w ∈ lw_tbl := fun w h => wsL_law_in w (inlX5 w h)
theorem inlX6 : ∀ w ∈ wsX60, w ∈ wsL_law := fun _ h => List.mem_append_left _ (List.mem_append_left _ (List.mem_append_left _ (List.mem_append_left _ (List.mem_append_left _ (List.mem_append_left _ (List.mem_append_right _ h))))))
theorem inX6 : ∀ w ∈ wsX60, w ∈ lw_tbl := fun w h => wsL_law_in w (inlX6 w h)
theorem inJ6 : ∀ w ∈ wsJ60, w ∈ lw_tbl := by decide +kernel
theorem inJ9 : ∀ w ∈ wsJ90, w ∈ lw_tbl := by decide +kernel
theorem inJ0 : ∀ w ∈ wsJ00, w ∈ lw_tbl := by decide +kernel
theorem inJ1 : ∀ w ∈ wsJ10, w ∈ lw_tbl := by decide +kernel
theorem inJ2 : ∀ w ∈ wsJ20, w ∈ lw_tbl := by decide +kernel
theorem inJ10 : ∀ w ∈ wsJ100, w ∈ lw_tbl := by decide +kernel
theorem inJ3 : ∀ w ∈ wsJ30, w ∈ lw_tbl := by decide +kernel
theorem dX0_init_0 : decode cX0_init 0 = .ok (.aload_n 0, 1) := by decide +kernel
theorem dX0_init_1 : decode cX0_init 1 = .ok (.invokespecial 3, 3) := by decide +kernel
theorem dX0_init_4 : decode cX0_init 4 = .ok (.aload_n 0, 1) := by decide +kernel
theorem dX0_init_5 : decode cX0_init 5 = .ok (.bipush 42, 2) := by decide +kernel
theorem dX0_init_7 : decode cX0_init 7 = .ok (.newarray .int, 2) := by decide +kernel
theorem dX0_init_9 : decode cX0_init 9 = .ok (.putfield 9, 3) := by decide +kernel
theorem dX0_init_12 : decode cX0_init 12 = .ok (.return_, 1) := by decide +kernel
theorem dX0_add_0 : decode cX0_add 0 = .ok (.aload_n 0, 1) := by decide +kernel
theorem dX0_add_1 : decode cX0_add 1 = .ok (.getfield 15, 3) := by decide +kernel
theorem dX0_add_4 : decode cX0_add 4 = .ok (.bipush 6, 2) := by decide +kernel
theorem dX0_add_6 : decode cX0_add 6 = .ok (.if_icmp .ge 95, 3) := by decide +kernel
theorem dX0_add_9 : decode cX0_add 9 = .ok (.aload_n 0, 1) := by decide +kernel
theorem dX0_add_10 : decode cX0_add 10 = .ok (.getfield 15, 3) := by decide +kernel
theorem dX0_add_13 : decode cX0_add 13 = .ok (.bipush 7, 2) := by decide +kernel
theorem dX0_add_15 : decode cX0_add 15 = .ok (.imul, 1) := by decide +kernel
theorem dX0_add_16 : decode cX0_add 16 = .ok (.istore 8, 2) := by decide +kernel
theorem dX0_add_18 : decode cX0_add 18 = .ok (.aload_n 0, 1) := by decide +kernel
theorem dX0_add_19 : decode cX0_add 19 = .ok (.getfield 9, 3) := by decide +kernel
theorem dX0_add_22 : decode cX0_add 22 = .ok (.iload 8, 2) := by decide +kernel
theorem dX0_add_24 : decode cX0_add 24 = .ok (.iload_n 1, 1) := by decide +kernel
theorem dX0_add_25 : decode cX0_add 25 = .ok (.iastore, 1) := by decide +kernel
theorem dX0_add_26 : decode cX0_add 26 = .ok (.aload_n 0, 1) := by decide +kernel
theorem dX0_add_27 : decode cX0_add 27 = .ok (.getfield 9, 3) := by decide +kernel
theorem dX0_add_30 : decode cX0_add 30 = .ok (.iload 8, 2) := by decide +kernel
theorem dX0_add_32 : decode cX0_add 32 = .ok (.iconst 1, 1) := by decide +kernel
theorem dX0_add_33 : decode cX0_add 33 = .ok (.iadd, 1) := by decide +kernel
theorem dX0_add_34 : decode cX0_add 34 = .ok (.iload_n 2, 1) := by decide +kernel
theorem dX0_add_35 : decode cX0_add 35 = .ok (.iastore, 1) := by decide +kernel
theorem dX0_add_36 : decode cX0_add 36 = .ok (.aload_n 0, 1) := by decide +kernel
theorem dX0_add_37 : decode cX0_add 37 = .ok (.getfield 9, 3) := by decide +kernel
theorem dX0_add_40 : decode cX0_add 40 = .ok (.iload 8, 2) := by decide +kernel
theorem dX0_add_42 : decode cX0_add 42 = .ok (.iconst 2, 1) := by decide +kernel
theorem dX0_add_43 : decode cX0_add 43 = .ok (.iadd, 1) := by decide +kernel
theorem dX0_add_44 : decode cX0_add 44 = .ok (.iload_n 3, 1) := by decide +kernel
theorem dX0_add_45 : decode cX0_add 45 = .ok (.iastore, 1) := by decide +kernel
theorem dX0_add_46 : decode cX0_add 46 = .ok (.aload_n 0, 1) := by decide +kernel
theorem dX0_add_47 : decode cX0_add 47 = .ok (.getfield 9, 3) := by decide +kernel
theorem dX0_add_50 : decode cX0_add 50 = .ok (.iload 8, 2) := by decide +kernel
theorem dX0_add_52 : decode cX0_add 52 = .ok (.iconst 3, 1) := by decide +kernel
theorem dX0_add_53 : decode cX0_add 53 = .ok (.iadd, 1) := by decide +kernel
theorem dX0_add_54 : decode cX0_add 54 = .ok (.iload 4, 2) := by decide +kernel
theorem dX0_add_56 : decode cX0_add 56 = .ok (.iastore, 1) := by decide +kernel
theorem dX0_add_57 : decode cX0_add 57 = .ok (.aload_n 0, 1) := by decide +kernel
theorem dX0_add_58 : decode cX0_add 58 = .ok (.getfield 9, 3) := by decide +kernel
theorem dX0_add_61 : decode cX0_add 61 = .ok (.iload 8, 2) := by decide +kernel
theorem dX0_add_63 : decode cX0_add 63 = .ok (.iconst 4, 1) := by decide +kernel
theorem dX0_add_64 : decode cX0_add 64 = .ok (.iadd, 1) := by decide +kernel
theorem dX0_add_65 : decode cX0_add 65 = .ok (.iload 5, 2) := by decide +kernel
theorem dX0_add_67 : decode cX0_add 67 = .ok (.iastore, 1) := by decide +kernel
theorem dX0_add_68 : decode cX0_add 68 = .ok (.aload_n 0, 1) := by decide +kernel
theorem dX0_add_69 : decode cX0_add 69 = .ok (.getfield 9, 3) := by decide +kernel
theorem dX0_add_72 : decode cX0_add 72 = .ok (.iload 8, 2) := by decide +kernel
theorem dX0_add_74 : decode cX0_add 74 = .ok (.iconst 5, 1) := by decide +kernel
theorem dX0_add_75 : decode cX0_add 75 = .ok (.iadd, 1) := by decide +kernel
theorem dX0_add_76 : decode cX0_add 76 = .ok (.iload 6, 2) := by decide +kernel
theorem dX0_add_78 : decode cX0_add 78 = .ok (.iastore, 1) := by decide +kernel
theorem dX0_add_79 : decode cX0_add 79 = .ok (.aload_n 0, 1) := by decide +kernel
theorem dX0_add_80 : decode cX0_add 80 = .ok (.getfield 9, 3) := by decide +kernel
theorem dX0_add_83 : decode cX0_add 83 = .ok (.iload 8, 2) := by decide +kernel
theorem dX0_add_85 : decode cX0_add 85 = .ok (.bipush 6, 2) := by decide +kernel
theorem dX0_add_87 : decode cX0_add 87 = .ok (.iadd, 1) := by decide +kernel
theorem dX0_add_88 : decode cX0_add 88 = .ok (.iload 7, 2) := by decide +kernel
theorem dX0_add_90 : decode cX0_add 90 = .ok (.iastore, 1) := by decide +kernel
theorem dX0_add_91 : decode cX0_add 91 = .ok (.aload_n 0, 1) := by decide +kernel
theorem dX0_add_92 : decode cX0_add 92 = .ok (.dup, 1) := by decide +kernel
theorem dX0_add_93 : decode cX0_add 93 = .ok (.getfield 15, 3) := by decide +kernel
theorem dX0_add_96 : decode cX0_add 96 = .ok (.iconst 1, 1) := by decide +kernel
theorem dX0_add_97 : decode cX0_add 97 = .ok (.iadd, 1) := by decide +kernel
theorem dX0_add_98 : decode cX0_add 98 = .ok (.putfield 15, 3) := by decide +kernel
theorem dX0_add_101 : decode cX0_add 101 = .ok (.aload_n 0, 1) := by decide +kernel
theorem dX0_add_102 : decode cX0_add 102 = .ok (.getfield 15, 3) := by decide +kernel
theorem dX0_add_105 : decode cX0_add 105 = .ok (.ireturn, 1) := by decide +kernel
set_option maxRecDepth 20000 in
theorem ggX0_kindsOf_X5_kindsSoNear : GoodIn wsX0_kindsOf wsX5_kindsSoNear := goodIn_r _ [5, 6, 7, 4, 8, 9, 10, 11, 12] (by decide +kernel) (by decide +kernel)
set_option maxRecDepth 20000 in
theorem gX0_kindsOf_X5_kindsSoNear_n19 : GoodIn wsX0_kindsOf (wsX5_kindsSoNear) := ggX0_kindsOf_X5_kindsSoNear
theorem dX0_kindsOf_0 : decode cX0_kindsOf 0 = .ok (.bipush 63, 2) := by decide +kernel
theorem dX0_kindsOf_2 : decode cX0_kindsOf 2 = .ok (.istore_n 2, 1) := by decide +kernel
theorem dX0_kindsOf_3 : decode cX0_kindsOf 3 = .ok (.iconst 0, 1) := by decide +kernel
theorem dX0_kindsOf_4 : decode cX0_kindsOf 4 = .ok (.istore_n 3, 1) := by decide +kernel
theorem dX0_kindsOf_5 : decode cX0_kindsOf 5 = .ok (.iload_n 3, 1) := by decide +kernel
theorem dX0_kindsOf_6 : decode cX0_kindsOf 6 = .ok (.aload_n 0, 1) := by decide +kernel
theorem dX0_kindsOf_7 : decode cX0_kindsOf 7 = .ok (.getfield 15, 3) := by decide +kernel
theorem dX0_kindsOf_10 : decode cX0_kindsOf 10 = .ok (.if_icmp .ge 87, 3) := by decide +kernel
theorem dX0_kindsOf_13 : decode cX0_kindsOf 13 = .ok (.iload_n 3, 1) := by decide +kernel
theorem dX0_kindsOf_14 : decode cX0_kindsOf 14 = .ok (.bipush 7, 2) := by decide +kernel
theorem dX0_kindsOf_16 : decode cX0_kindsOf 16 = .ok (.imul, 1) := by decide +kernel
theorem dX0_kindsOf_17 : decode cX0_kindsOf 17 = .ok (.istore 4, 2) := by decide +kernel
theorem dX0_kindsOf_19 : decode cX0_kindsOf 19 = .ok (.aload_n 0, 1) := by decide +kernel
theorem dX0_kindsOf_20 : decode cX0_kindsOf 20 = .ok (.getfield 9, 3) := by decide +kernel
theorem dX0_kindsOf_23 : decode cX0_kindsOf 23 = .ok (.iload 4, 2) := by decide +kernel
theorem dX0_kindsOf_25 : decode cX0_kindsOf 25 = .ok (.iaload, 1) := by decide +kernel
theorem dX0_kindsOf_26 : decode cX0_kindsOf 26 = .ok (.iload_n 1, 1) := by decide +kernel
theorem dX0_kindsOf_27 : decode cX0_kindsOf 27 = .ok (.if_icmp .ne 64, 3) := by decide +kernel
theorem dX0_kindsOf_30 : decode cX0_kindsOf 30 = .ok (.iload_n 2, 1) := by decide +kernel
theorem dX0_kindsOf_31 : decode cX0_kindsOf 31 = .ok (.aload_n 0, 1) := by decide +kernel
theorem dX0_kindsOf_32 : decode cX0_kindsOf 32 = .ok (.getfield 9, 3) := by decide +kernel
theorem dX0_kindsOf_35 : decode cX0_kindsOf 35 = .ok (.iload 4, 2) := by decide +kernel
theorem dX0_kindsOf_37 : decode cX0_kindsOf 37 = .ok (.bipush 6, 2) := by decide +kernel
theorem dX0_kindsOf_39 : decode cX0_kindsOf 39 = .ok (.iadd, 1) := by decide +kernel
theorem dX0_kindsOf_40 : decode cX0_kindsOf 40 = .ok (.iaload, 1) := by decide +kernel
theorem dX0_kindsOf_41 : decode cX0_kindsOf 41 = .ok (.aload_n 0, 1) := by decide +kernel
theorem dX0_kindsOf_42 : decode cX0_kindsOf 42 = .ok (.getfield 9, 3) := by decide +kernel
theorem dX0_kindsOf_45 : decode cX0_kindsOf 45 = .ok (.iload 4, 2) := by decide +kernel
theorem dX0_kindsOf_47 : decode cX0_kindsOf 47 = .ok (.iconst 1, 1) := by decide +kernel
theorem dX0_kindsOf_48 : decode cX0_kindsOf 48 = .ok (.iadd, 1) := by decide +kernel
theorem dX0_kindsOf_49 : decode cX0_kindsOf 49 = .ok (.iaload, 1) := by decide +kernel
theorem dX0_kindsOf_50 : decode cX0_kindsOf 50 = .ok (.aload_n 0, 1) := by decide +kernel
theorem dX0_kindsOf_51 : decode cX0_kindsOf 51 = .ok (.getfield 9, 3) := by decide +kernel
theorem dX0_kindsOf_54 : decode cX0_kindsOf 54 = .ok (.iload 4, 2) := by decide +kernel
theorem dX0_kindsOf_56 : decode cX0_kindsOf 56 = .ok (.iconst 2, 1) := by decide +kernel
theorem dX0_kindsOf_57 : decode cX0_kindsOf 57 = .ok (.iadd, 1) := by decide +kernel
theorem dX0_kindsOf_58 : decode cX0_kindsOf 58 = .ok (.iaload, 1) := by decide +kernel
theorem dX0_kindsOf_59 : decode cX0_kindsOf 59 = .ok (.aload_n 0, 1) := by decide +kernel
theorem dX0_kindsOf_60 : decode cX0_kindsOf 60 = .ok (.getfield 9, 3) := by decide +kernel
theorem dX0_kindsOf_63 : decode cX0_kindsOf 63 = .ok (.iload 4, 2) := by decide +kernel
theorem dX0_kindsOf_65 : decode cX0_kindsOf 65 = .ok (.iconst 3, 1) := by decide +kernel
theorem dX0_kindsOf_66 : decode cX0_kindsOf 66 = .ok (.iadd, 1) := by decide +kernel
theorem dX0_kindsOf_67 : decode cX0_kindsOf 67 = .ok (.iaload, 1) := by decide +kernel
theorem dX0_kindsOf_68 : decode cX0_kindsOf 68 = .ok (.aload_n 0, 1) := by decide +kernel
theorem dX0_kindsOf_69 : decode cX0_kindsOf 69 = .ok (.getfield 9, 3) := by decide +kernel
theorem dX0_kindsOf_72 : decode cX0_kindsOf 72 = .ok (.iload 4, 2) := by decide +kernel
theorem dX0_kindsOf_74 : decode cX0_kindsOf 74 = .ok (.iconst 4, 1) := by decide +kernel
theorem dX0_kindsOf_75 : decode cX0_kindsOf 75 = .ok (.iadd, 1) := by decide +kernel
theorem dX0_kindsOf_76 : decode cX0_kindsOf 76 = .ok (.iaload, 1) := by decide +kernel
theorem dX0_kindsOf_77 : decode cX0_kindsOf 77 = .ok (.aload_n 0, 1) := by decide +kernel
theorem dX0_kindsOf_78 : decode cX0_kindsOf 78 = .ok (.getfield 9, 3) := by decide +kernel
theorem dX0_kindsOf_81 : decode cX0_kindsOf 81 = .ok (.iload 4, 2) := by decide +kernel
theorem dX0_kindsOf_83 : decode cX0_kindsOf 83 = .ok (.iconst 5, 1) := by decide +kernel
theorem dX0_kindsOf_84 : decode cX0_kindsOf 84 = .ok (.iadd, 1) := by decide +kernel
theorem dX0_kindsOf_85 : decode cX0_kindsOf 85 = .ok (.iaload, 1) := by decide +kernel
theorem dX0_kindsOf_86 : decode cX0_kindsOf 86 = .ok (.invokestatic 19, 3) := by decide +kernel
theorem dX0_kindsOf_89 : decode cX0_kindsOf 89 = .ok (.iand, 1) := by decide +kernel
theorem dX0_kindsOf_90 : decode cX0_kindsOf 90 = .ok (.istore_n 2, 1) := by decide +kernel
theorem dX0_kindsOf_91 : decode cX0_kindsOf 91 = .ok (.iinc 3 1, 3) := by decide +kernel
theorem dX0_kindsOf_94 : decode cX0_kindsOf 94 = .ok (.goto (-89), 3) := by decide +kernel
theorem dX0_kindsOf_97 : decode cX0_kindsOf 97 = .ok (.iload_n 2, 1) := by decide +kernel
theorem dX0_kindsOf_98 : decode cX0_kindsOf 98 = .ok (.ireturn, 1) := by decide +kernel
theorem dX0_copyFrom_0 : decode cX0_copyFrom 0 = .ok (.aload_n 0, 1) := by decide +kernel
theorem dX0_copyFrom_1 : decode cX0_copyFrom 1 = .ok (.aload_n 1, 1) := by decide +kernel
theorem dX0_copyFrom_2 : decode cX0_copyFrom 2 = .ok (.getfield 15, 3) := by decide +kernel
theorem dX0_copyFrom_5 : decode cX0_copyFrom 5 = .ok (.putfield 15, 3) := by decide +kernel
theorem dX0_copyFrom_8 : decode cX0_copyFrom 8 = .ok (.aload_n 1, 1) := by decide +kernel
theorem dX0_copyFrom_9 : decode cX0_copyFrom 9 = .ok (.getfield 9, 3) := by decide +kernel
theorem dX0_copyFrom_12 : decode cX0_copyFrom 12 = .ok (.iconst 0, 1) := by decide +kernel
theorem dX0_copyFrom_13 : decode cX0_copyFrom 13 = .ok (.aload_n 0, 1) := by decide +kernel
theorem dX0_copyFrom_14 : decode cX0_copyFrom 14 = .ok (.getfield 9, 3) := by decide +kernel
theorem dX0_copyFrom_17 : decode cX0_copyFrom 17 = .ok (.iconst 0, 1) := by decide +kernel
theorem dX0_copyFrom_18 : decode cX0_copyFrom 18 = .ok (.aload_n 0, 1) := by decide +kernel
theorem dX0_copyFrom_19 : decode cX0_copyFrom 19 = .ok (.getfield 9, 3) := by decide +kernel
theorem dX0_copyFrom_22 : decode cX0_copyFrom 22 = .ok (.arraylength, 1) := by decide +kernel
theorem dX0_copyFrom_23 : decode cX0_copyFrom 23 = .ok (.invokestatic 23, 3) := by decide +kernel
theorem dX0_copyFrom_26 : decode cX0_copyFrom 26 = .ok (.return_, 1) := by decide +kernel
set_option maxRecDepth 20000 in
theorem ggX1_init_X3_init : GoodIn wsX1_init wsX3_init := goodIn_r _ [9, 10, 2, 3, 11, 12, 13, 14, 15, 16, 20, 21, 22, 23, 24, 25, 26, 27, 28, 29] (by decide +kernel) (by decide +kernel)
set_option maxRecDepth 20000 in
theorem gX1_init_X3_init_n17 : GoodIn wsX1_init (wsX3_init) := ggX1_init_X3_init
theorem dX1_init_0 : decode cX1_init 0 = .ok (.aload_n 0, 1) := by decide +kernel
theorem dX1_init_1 : decode cX1_init 1 = .ok (.invokespecial 3, 3) := by decide +kernel
theorem dX1_init_4 : decode cX1_init 4 = .ok (.aload_n 0, 1) := by decide +kernel
theorem dX1_init_5 : decode cX1_init 5 = .ok (.bipush 8, 2) := by decide +kernel
theorem dX1_init_7 : decode cX1_init 7 = .ok (.anewarray 9, 3) := by decide +kernel
theorem dX1_init_10 : decode cX1_init 10 = .ok (.putfield 11, 3) := by decide +kernel
theorem dX1_init_13 : decode cX1_init 13 = .ok (.iconst 0, 1) := by decide +kernel
theorem dX1_init_14 : decode cX1_init 14 = .ok (.istore_n 1, 1) := by decide +kernel
theorem dX1_init_15 : decode cX1_init 15 = .ok (.iload_n 1, 1) := by decide +kernel
theorem dX1_init_16 : decode cX1_init 16 = .ok (.bipush 8, 2) := by decide +kernel
theorem dX1_init_18 : decode cX1_init 18 = .ok (.if_icmp .ge 22, 3) := by decide +kernel
theorem dX1_init_21 : decode cX1_init 21 = .ok (.aload_n 0, 1) := by decide +kernel
theorem dX1_init_22 : decode cX1_init 22 = .ok (.getfield 11, 3) := by decide +kernel
theorem dX1_init_25 : decode cX1_init 25 = .ok (.iload_n 1, 1) := by decide +kernel
theorem dX1_init_26 : decode cX1_init 26 = .ok (.new 9, 3) := by decide +kernel
theorem dX1_init_29 : decode cX1_init 29 = .ok (.dup, 1) := by decide +kernel
theorem dX1_init_30 : decode cX1_init 30 = .ok (.invokespecial 17, 3) := by decide +kernel
theorem dX1_init_33 : decode cX1_init 33 = .ok (.aastore, 1) := by decide +kernel
theorem dX1_init_34 : decode cX1_init 34 = .ok (.iinc 1 1, 3) := by decide +kernel
theorem dX1_init_37 : decode cX1_init 37 = .ok (.goto (-22), 3) := by decide +kernel
theorem dX1_init_40 : decode cX1_init 40 = .ok (.return_, 1) := by decide +kernel
theorem dX1_empty_0 : decode cX1_empty 0 = .ok (.aload_n 0, 1) := by decide +kernel
theorem dX1_empty_1 : decode cX1_empty 1 = .ok (.iconst 0, 1) := by decide +kernel
theorem dX1_empty_2 : decode cX1_empty 2 = .ok (.putfield 18, 3) := by decide +kernel
theorem dX1_empty_5 : decode cX1_empty 5 = .ok (.aload_n 0, 1) := by decide +kernel
theorem dX1_empty_6 : decode cX1_empty 6 = .ok (.iconst 0, 1) := by decide +kernel
theorem dX1_empty_7 : decode cX1_empty 7 = .ok (.putfield 22, 3) := by decide +kernel
theorem dX1_empty_10 : decode cX1_empty 10 = .ok (.return_, 1) := by decide +kernel
set_option maxRecDepth 20000 in
theorem ggX1_keep_X3_copyFrom : GoodIn wsX1_keep wsX3_copyFrom := goodIn_r _ [7, 8, 9, 10, 11, 12, 13, 14, 15, 16, 17, 18, 19, 20, 21, 25, 26, 27, 28, 29, 30, 31, 32, 33, 34] (by decide +kernel) (by decide +kernel)
set_option maxRecDepth 20000 in
theorem gX1_keep_X3_copyFrom_n25 : GoodIn wsX1_keep (wsX3_copyFrom) := ggX1_keep_X3_copyFrom
theorem dX1_keep_0 : decode cX1_keep 0 = .ok (.aload_n 0, 1) := by decide +kernel
theorem dX1_keep_1 : decode cX1_keep 1 = .ok (.getfield 22, 3) := by decide +kernel
theorem dX1_keep_4 : decode cX1_keep 4 = .ok (.bipush 8, 2) := by decide +kernel
theorem dX1_keep_6 : decode cX1_keep 6 = .ok (.if_icmp .ge 16, 3) := by decide +kernel
theorem dX1_keep_9 : decode cX1_keep 9 = .ok (.aload_n 0, 1) := by decide +kernel
theorem dX1_keep_10 : decode cX1_keep 10 = .ok (.dup, 1) := by decide +kernel
theorem dX1_keep_11 : decode cX1_keep 11 = .ok (.getfield 22, 3) := by decide +kernel
theorem dX1_keep_14 : decode cX1_keep 14 = .ok (.iconst 1, 1) := by decide +kernel
theorem dX1_keep_15 : decode cX1_keep 15 = .ok (.iadd, 1) := by decide +kernel
theorem dX1_keep_16 : decode cX1_keep 16 = .ok (.putfield 22, 3) := by decide +kernel
theorem dX1_keep_19 : decode cX1_keep 19 = .ok (.goto 16, 3) := by decide +kernel
theorem dX1_keep_22 : decode cX1_keep 22 = .ok (.aload_n 0, 1) := by decide +kernel
theorem dX1_keep_23 : decode cX1_keep 23 = .ok (.aload_n 0, 1) := by decide +kernel
theorem dX1_keep_24 : decode cX1_keep 24 = .ok (.getfield 18, 3) := by decide +kernel
theorem dX1_keep_27 : decode cX1_keep 27 = .ok (.iconst 1, 1) := by decide +kernel
theorem dX1_keep_28 : decode cX1_keep 28 = .ok (.iadd, 1) := by decide +kernel
theorem dX1_keep_29 : decode cX1_keep 29 = .ok (.bipush 8, 2) := by decide +kernel
theorem dX1_keep_31 : decode cX1_keep 31 = .ok (.irem, 1) := by decide +kernel
theorem dX1_keep_32 : decode cX1_keep 32 = .ok (.putfield 18, 3) := by decide +kernel
theorem dX1_keep_35 : decode cX1_keep 35 = .ok (.aload_n 0, 1) := by decide +kernel
theorem dX1_keep_36 : decode cX1_keep 36 = .ok (.getfield 11, 3) := by decide +kernel
theorem dX1_keep_39 : decode cX1_keep 39 = .ok (.aload_n 0, 1) := by decide +kernel
theorem dX1_keep_40 : decode cX1_keep 40 = .ok (.getfield 18, 3) := by decide +kernel
theorem dX1_keep_43 : decode cX1_keep 43 = .ok (.aload_n 0, 1) := by decide +kernel
theorem dX1_keep_44 : decode cX1_keep 44 = .ok (.getfield 22, 3) := by decide +kernel
theorem dX1_keep_47 : decode cX1_keep 47 = .ok (.iadd, 1) := by decide +kernel
theorem dX1_keep_48 : decode cX1_keep 48 = .ok (.iconst 1, 1) := by decide +kernel
theorem dX1_keep_49 : decode cX1_keep 49 = .ok (.isub, 1) := by decide +kernel
theorem dX1_keep_50 : decode cX1_keep 50 = .ok (.bipush 8, 2) := by decide +kernel
theorem dX1_keep_52 : decode cX1_keep 52 = .ok (.irem, 1) := by decide +kernel
theorem dX1_keep_53 : decode cX1_keep 53 = .ok (.aaload, 1) := by decide +kernel
theorem dX1_keep_54 : decode cX1_keep 54 = .ok (.aload_n 1, 1) := by decide +kernel
theorem dX1_keep_55 : decode cX1_keep 55 = .ok (.invokevirtual 25, 3) := by decide +kernel
theorem dX1_keep_58 : decode cX1_keep 58 = .ok (.return_, 1) := by decide +kernel
set_option maxRecDepth 20000 in
theorem ggX1_giveBack_X3_copyFrom : GoodIn wsX1_giveBack wsX3_copyFrom := goodIn_r _ [7, 8, 9, 10, 11, 12, 13, 14, 15, 16, 17, 18, 19, 20, 21, 25, 26, 27, 28, 29, 30, 31, 32, 33, 34] (by decide +kernel) (by decide +kernel)
set_option maxRecDepth 20000 in
theorem gX1_giveBack_X3_copyFrom_n25 : GoodIn wsX1_giveBack (wsX3_copyFrom) := ggX1_giveBack_X3_copyFrom
theorem dX1_giveBack_0 : decode cX1_giveBack 0 = .ok (.aload_n 0, 1) := by decide +kernel
theorem dX1_giveBack_1 : decode cX1_giveBack 1 = .ok (.getfield 22, 3) := by decide +kernel
theorem dX1_giveBack_4 : decode cX1_giveBack 4 = .ok (.ifCond .le 34, 3) := by decide +kernel
theorem dX1_giveBack_7 : decode cX1_giveBack 7 = .ok (.aload_n 0, 1) := by decide +kernel
theorem dX1_giveBack_8 : decode cX1_giveBack 8 = .ok (.dup, 1) := by decide +kernel
theorem dX1_giveBack_9 : decode cX1_giveBack 9 = .ok (.getfield 22, 3) := by decide +kernel
theorem dX1_giveBack_12 : decode cX1_giveBack 12 = .ok (.iconst 1, 1) := by decide +kernel
theorem dX1_giveBack_13 : decode cX1_giveBack 13 = .ok (.isub, 1) := by decide +kernel
theorem dX1_giveBack_14 : decode cX1_giveBack 14 = .ok (.putfield 22, 3) := by decide +kernel
theorem dX1_giveBack_17 : decode cX1_giveBack 17 = .ok (.aload_n 1, 1) := by decide +kernel
theorem dX1_giveBack_18 : decode cX1_giveBack 18 = .ok (.aload_n 0, 1) := by decide +kernel
theorem dX1_giveBack_19 : decode cX1_giveBack 19 = .ok (.getfield 11, 3) := by decide +kernel
theorem dX1_giveBack_22 : decode cX1_giveBack 22 = .ok (.aload_n 0, 1) := by decide +kernel
theorem dX1_giveBack_23 : decode cX1_giveBack 23 = .ok (.getfield 18, 3) := by decide +kernel
theorem dX1_giveBack_26 : decode cX1_giveBack 26 = .ok (.aload_n 0, 1) := by decide +kernel
theorem dX1_giveBack_27 : decode cX1_giveBack 27 = .ok (.getfield 22, 3) := by decide +kernel
theorem dX1_giveBack_30 : decode cX1_giveBack 30 = .ok (.iadd, 1) := by decide +kernel
theorem dX1_giveBack_31 : decode cX1_giveBack 31 = .ok (.bipush 8, 2) := by decide +kernel
theorem dX1_giveBack_33 : decode cX1_giveBack 33 = .ok (.irem, 1) := by decide +kernel
theorem dX1_giveBack_34 : decode cX1_giveBack 34 = .ok (.aaload, 1) := by decide +kernel
theorem dX1_giveBack_35 : decode cX1_giveBack 35 = .ok (.invokevirtual 25, 3) := by decide +kernel
theorem dX1_giveBack_38 : decode cX1_giveBack 38 = .ok (.return_, 1) := by decide +kernel
set_option maxRecDepth 20000 in
theorem ggX1_copyFrom_X3_copyFrom : GoodIn wsX1_copyFrom wsX3_copyFrom := goodIn_r _ [7, 8, 9, 10, 11, 12, 13, 14, 15, 16, 17, 18, 19, 20, 21, 25, 26, 27, 28, 29, 30, 31, 32, 33, 34] (by decide +kernel) (by decide +kernel)
set_option maxRecDepth 20000 in
theorem gX1_copyFrom_X3_copyFrom_n25 : GoodIn wsX1_copyFrom (wsX3_copyFrom) := ggX1_copyFrom_X3_copyFrom
theorem dX1_copyFrom_0 : decode cX1_copyFrom 0 = .ok (.aload_n 0, 1) := by decide +kernel
theorem dX1_copyFrom_1 : decode cX1_copyFrom 1 = .ok (.aload_n 1, 1) := by decide +kernel
theorem dX1_copyFrom_2 : decode cX1_copyFrom 2 = .ok (.getfield 18, 3) := by decide +kernel
theorem dX1_copyFrom_5 : decode cX1_copyFrom 5 = .ok (.putfield 18, 3) := by decide +kernel
theorem dX1_copyFrom_8 : decode cX1_copyFrom 8 = .ok (.aload_n 0, 1) := by decide +kernel
theorem dX1_copyFrom_9 : decode cX1_copyFrom 9 = .ok (.aload_n 1, 1) := by decide +kernel
theorem dX1_copyFrom_10 : decode cX1_copyFrom 10 = .ok (.getfield 22, 3) := by decide +kernel
theorem dX1_copyFrom_13 : decode cX1_copyFrom 13 = .ok (.putfield 22, 3) := by decide +kernel
theorem dX1_copyFrom_16 : decode cX1_copyFrom 16 = .ok (.iconst 0, 1) := by decide +kernel
theorem dX1_copyFrom_17 : decode cX1_copyFrom 17 = .ok (.istore_n 2, 1) := by decide +kernel
theorem dX1_copyFrom_18 : decode cX1_copyFrom 18 = .ok (.iload_n 2, 1) := by decide +kernel
theorem dX1_copyFrom_19 : decode cX1_copyFrom 19 = .ok (.bipush 8, 2) := by decide +kernel
theorem dX1_copyFrom_21 : decode cX1_copyFrom 21 = .ok (.if_icmp .ge 24, 3) := by decide +kernel
theorem dX1_copyFrom_24 : decode cX1_copyFrom 24 = .ok (.aload_n 0, 1) := by decide +kernel
theorem dX1_copyFrom_25 : decode cX1_copyFrom 25 = .ok (.getfield 11, 3) := by decide +kernel
theorem dX1_copyFrom_28 : decode cX1_copyFrom 28 = .ok (.iload_n 2, 1) := by decide +kernel
theorem dX1_copyFrom_29 : decode cX1_copyFrom 29 = .ok (.aaload, 1) := by decide +kernel
theorem dX1_copyFrom_30 : decode cX1_copyFrom 30 = .ok (.aload_n 1, 1) := by decide +kernel
theorem dX1_copyFrom_31 : decode cX1_copyFrom 31 = .ok (.getfield 11, 3) := by decide +kernel
theorem dX1_copyFrom_34 : decode cX1_copyFrom 34 = .ok (.iload_n 2, 1) := by decide +kernel
theorem dX1_copyFrom_35 : decode cX1_copyFrom 35 = .ok (.aaload, 1) := by decide +kernel
theorem dX1_copyFrom_36 : decode cX1_copyFrom 36 = .ok (.invokevirtual 25, 3) := by decide +kernel
theorem dX1_copyFrom_39 : decode cX1_copyFrom 39 = .ok (.iinc 2 1, 3) := by decide +kernel
theorem dX1_copyFrom_42 : decode cX1_copyFrom 42 = .ok (.goto (-24), 3) := by decide +kernel
theorem dX1_copyFrom_45 : decode cX1_copyFrom 45 = .ok (.return_, 1) := by decide +kernel
set_option maxRecDepth 20000 in
theorem ggX2_init_X3_init : GoodIn wsX2_init wsX3_init := goodIn_r _ [17, 18, 2, 3, 19, 20, 21, 22, 23, 24, 34, 35, 36, 37, 38, 39, 40, 41, 42, 43] (by decide +kernel) (by decide +kernel)
set_option maxRecDepth 20000 in
theorem gX2_init_X3_init_n9 : GoodIn wsX2_init (wsX3_init) := ggX2_init_X3_init
set_option maxRecDepth 20000 in
theorem ggX2_init_X1_init : GoodIn wsX2_init wsX1_init := goodIn_r _ [26, 27, 2, 3, 28, 29, 5, 6, 16, 17, 18, 19, 20, 21, 22, 23, 24, 47, 48, 49, 34, 35, 36, 37, 38, 39, 40, 41, 42, 43] (by decide +kernel) (by decide +kernel)
set_option maxRecDepth 20000 in
theorem gX2_init_X1_init_n18 : GoodIn wsX2_init (wsX1_init) := ggX2_init_X1_init
set_option maxRecDepth 20000 in
theorem ggX2_init_X0_init : GoodIn wsX2_init wsX0_init := goodIn_r _ [31, 32, 2, 3, 19, 33, 50, 51] (by decide +kernel) (by decide +kernel)
set_option maxRecDepth 20000 in
theorem gX2_init_X0_init_n25 : GoodIn wsX2_init (wsX0_init) := ggX2_init_X0_init
theorem dX2_init_0 : decode cX2_init 0 = .ok (.aload_n 0, 1) := by decide +kernel
theorem dX2_init_1 : decode cX2_init 1 = .ok (.invokespecial 1, 3) := by decide +kernel
theorem dX2_init_4 : decode cX2_init 4 = .ok (.aload_n 0, 1) := by decide +kernel
theorem dX2_init_5 : decode cX2_init 5 = .ok (.new 7, 3) := by decide +kernel
theorem dX2_init_8 : decode cX2_init 8 = .ok (.dup, 1) := by decide +kernel
theorem dX2_init_9 : decode cX2_init 9 = .ok (.invokespecial 9, 3) := by decide +kernel
theorem dX2_init_12 : decode cX2_init 12 = .ok (.putfield 10, 3) := by decide +kernel
theorem dX2_init_15 : decode cX2_init 15 = .ok (.aload_n 0, 1) := by decide +kernel
theorem dX2_init_16 : decode cX2_init 16 = .ok (.new 16, 3) := by decide +kernel
theorem dX2_init_19 : decode cX2_init 19 = .ok (.dup, 1) := by decide +kernel
theorem dX2_init_20 : decode cX2_init 20 = .ok (.invokespecial 18, 3) := by decide +kernel
theorem dX2_init_23 : decode cX2_init 23 = .ok (.putfield 19, 3) := by decide +kernel
theorem dX2_init_26 : decode cX2_init 26 = .ok (.aload_n 0, 1) := by decide +kernel
theorem dX2_init_27 : decode cX2_init 27 = .ok (.new 23, 3) := by decide +kernel
theorem dX2_init_30 : decode cX2_init 30 = .ok (.dup, 1) := by decide +kernel
theorem dX2_init_31 : decode cX2_init 31 = .ok (.invokespecial 25, 3) := by decide +kernel
theorem dX2_init_34 : decode cX2_init 34 = .ok (.putfield 26, 3) := by decide +kernel
theorem dX2_init_37 : decode cX2_init 37 = .ok (.return_, 1) := by decide +kernel
set_option maxRecDepth 20000 in
theorem ggX2_beginWith_X3_copyFrom : GoodIn wsX2_beginWith wsX3_copyFrom := goodIn_r _ [7, 8, 9, 10, 11, 12, 13, 14, 15, 16, 17, 18, 19, 20, 21, 33, 34, 35, 36, 37, 38, 39, 40, 41, 42] (by decide +kernel) (by decide +kernel)
set_option maxRecDepth 20000 in
theorem gX2_beginWith_X3_copyFrom_n30 : GoodIn wsX2_beginWith (wsX3_copyFrom) := ggX2_beginWith_X3_copyFrom
set_option maxRecDepth 20000 in
theorem ggX2_beginWith_X1_empty : GoodIn wsX2_beginWith wsX1_empty := goodIn_r _ [25, 26, 27, 43, 44, 45] (by decide +kernel) (by decide +kernel)
set_option maxRecDepth 20000 in
theorem gX2_beginWith_X1_empty_n34 : GoodIn wsX2_beginWith (wsX1_empty) := ggX2_beginWith_X1_empty
theorem dX2_beginWith_0 : decode cX2_beginWith 0 = .ok (.aload_n 0, 1) := by decide +kernel
theorem dX2_beginWith_1 : decode cX2_beginWith 1 = .ok (.getfield 10, 3) := by decide +kernel
theorem dX2_beginWith_4 : decode cX2_beginWith 4 = .ok (.aload_n 1, 1) := by decide +kernel
theorem dX2_beginWith_5 : decode cX2_beginWith 5 = .ok (.invokevirtual 30, 3) := by decide +kernel
theorem dX2_beginWith_8 : decode cX2_beginWith 8 = .ok (.aload_n 0, 1) := by decide +kernel
theorem dX2_beginWith_9 : decode cX2_beginWith 9 = .ok (.getfield 19, 3) := by decide +kernel
theorem dX2_beginWith_12 : decode cX2_beginWith 12 = .ok (.invokevirtual 34, 3) := by decide +kernel
theorem dX2_beginWith_15 : decode cX2_beginWith 15 = .ok (.aload_n 0, 1) := by decide +kernel
theorem dX2_beginWith_16 : decode cX2_beginWith 16 = .ok (.getfield 26, 3) := by decide +kernel
theorem dX2_beginWith_19 : decode cX2_beginWith 19 = .ok (.iconst 0, 1) := by decide +kernel
theorem dX2_beginWith_20 : decode cX2_beginWith 20 = .ok (.putfield 37, 3) := by decide +kernel
theorem dX2_beginWith_23 : decode cX2_beginWith 23 = .ok (.return_, 1) := by decide +kernel
set_option maxRecDepth 20000 in
theorem ggX2_copyFrom_X3_copyFrom : GoodIn wsX2_copyFrom wsX3_copyFrom := goodIn_r _ [7, 8, 9, 10, 11, 12, 13, 14, 15, 16, 17, 18, 19, 20, 21, 39, 40, 41, 42, 43, 44, 45, 46, 47, 48] (by decide +kernel) (by decide +kernel)
set_option maxRecDepth 20000 in
theorem gX2_copyFrom_X3_copyFrom_n30 : GoodIn wsX2_copyFrom (wsX3_copyFrom) := ggX2_copyFrom_X3_copyFrom
set_option maxRecDepth 20000 in
theorem ggX2_copyFrom_X1_copyFrom : GoodIn wsX2_copyFrom wsX1_copyFrom := goodIn_r _ [25, 26, 27, 28, 4, 5, 6, 7, 8, 9, 10, 11, 12, 13, 14, 15, 16, 17, 18, 19, 20, 21, 49, 50, 51, 39, 40, 41, 42, 43, 44, 45, 46, 47, 48] (by decide +kernel) (by decide +kernel)
set_option maxRecDepth 20000 in
theorem gX2_copyFrom_X1_copyFrom_n41 : GoodIn wsX2_copyFrom (wsX1_copyFrom) := ggX2_copyFrom_X1_copyFrom
set_option maxRecDepth 20000 in
theorem ggX2_copyFrom_X0_copyFrom : GoodIn wsX2_copyFrom wsX0_copyFrom := goodIn_r _ [32, 33, 34, 35, 15, 16, 17, 52, 53] (by decide +kernel) (by decide +kernel)
set_option maxRecDepth 20000 in
theorem gX2_copyFrom_X0_copyFrom_n44 : GoodIn wsX2_copyFrom (wsX0_copyFrom) := ggX2_copyFrom_X0_copyFrom
theorem dX2_copyFrom_0 : decode cX2_copyFrom 0 = .ok (.aload_n 0, 1) := by decide +kernel
theorem dX2_copyFrom_1 : decode cX2_copyFrom 1 = .ok (.getfield 10, 3) := by decide +kernel
theorem dX2_copyFrom_4 : decode cX2_copyFrom 4 = .ok (.aload_n 1, 1) := by decide +kernel
theorem dX2_copyFrom_5 : decode cX2_copyFrom 5 = .ok (.getfield 10, 3) := by decide +kernel
theorem dX2_copyFrom_8 : decode cX2_copyFrom 8 = .ok (.invokevirtual 30, 3) := by decide +kernel
theorem dX2_copyFrom_11 : decode cX2_copyFrom 11 = .ok (.aload_n 0, 1) := by decide +kernel
theorem dX2_copyFrom_12 : decode cX2_copyFrom 12 = .ok (.getfield 19, 3) := by decide +kernel
theorem dX2_copyFrom_15 : decode cX2_copyFrom 15 = .ok (.aload_n 1, 1) := by decide +kernel
theorem dX2_copyFrom_16 : decode cX2_copyFrom 16 = .ok (.getfield 19, 3) := by decide +kernel
theorem dX2_copyFrom_19 : decode cX2_copyFrom 19 = .ok (.invokevirtual 41, 3) := by decide +kernel
theorem dX2_copyFrom_22 : decode cX2_copyFrom 22 = .ok (.aload_n 0, 1) := by decide +kernel
theorem dX2_copyFrom_23 : decode cX2_copyFrom 23 = .ok (.getfield 26, 3) := by decide +kernel
theorem dX2_copyFrom_26 : decode cX2_copyFrom 26 = .ok (.aload_n 1, 1) := by decide +kernel
theorem dX2_copyFrom_27 : decode cX2_copyFrom 27 = .ok (.getfield 26, 3) := by decide +kernel
theorem dX2_copyFrom_30 : decode cX2_copyFrom 30 = .ok (.invokevirtual 44, 3) := by decide +kernel
theorem dX2_copyFrom_33 : decode cX2_copyFrom 33 = .ok (.return_, 1) := by decide +kernel
theorem dX3_init_0 : decode cX3_init 0 = .ok (.aload_n 0, 1) := by decide +kernel
theorem dX3_init_1 : decode cX3_init 1 = .ok (.invokespecial 3, 3) := by decide +kernel
theorem dX3_init_4 : decode cX3_init 4 = .ok (.aload_n 0, 1) := by decide +kernel
theorem dX3_init_5 : decode cX3_init 5 = .ok (.bipush 6, 2) := by decide +kernel
theorem dX3_init_7 : decode cX3_init 7 = .ok (.newarray .int, 2) := by decide +kernel
theorem dX3_init_9 : decode cX3_init 9 = .ok (.putfield 9, 3) := by decide +kernel
theorem dX3_init_12 : decode cX3_init 12 = .ok (.aload_n 0, 1) := by decide +kernel
theorem dX3_init_13 : decode cX3_init 13 = .ok (.bipush 6, 2) := by decide +kernel
theorem dX3_init_15 : decode cX3_init 15 = .ok (.newarray .int, 2) := by decide +kernel
theorem dX3_init_17 : decode cX3_init 17 = .ok (.putfield 15, 3) := by decide +kernel
theorem dX3_init_20 : decode cX3_init 20 = .ok (.aload_n 0, 1) := by decide +kernel
theorem dX3_init_21 : decode cX3_init 21 = .ok (.bipush 6, 2) := by decide +kernel
theorem dX3_init_23 : decode cX3_init 23 = .ok (.newarray .int, 2) := by decide +kernel
theorem dX3_init_25 : decode cX3_init 25 = .ok (.putfield 18, 3) := by decide +kernel
theorem dX3_init_28 : decode cX3_init 28 = .ok (.aload_n 0, 1) := by decide +kernel
theorem dX3_init_29 : decode cX3_init 29 = .ok (.bipush 6, 2) := by decide +kernel
theorem dX3_init_31 : decode cX3_init 31 = .ok (.newarray .int, 2) := by decide +kernel
theorem dX3_init_33 : decode cX3_init 33 = .ok (.putfield 21, 3) := by decide +kernel
theorem dX3_init_36 : decode cX3_init 36 = .ok (.aload_n 0, 1) := by decide +kernel
theorem dX3_init_37 : decode cX3_init 37 = .ok (.bipush 6, 2) := by decide +kernel
theorem dX3_init_39 : decode cX3_init 39 = .ok (.newarray .int, 2) := by decide +kernel
theorem dX3_init_41 : decode cX3_init 41 = .ok (.putfield 24, 3) := by decide +kernel
theorem dX3_init_44 : decode cX3_init 44 = .ok (.return_, 1) := by decide +kernel
theorem dX3_layAnew_0 : decode cX3_layAnew 0 = .ok (.aload_n 0, 1) := by decide +kernel
theorem dX3_layAnew_1 : decode cX3_layAnew 1 = .ok (.iload_n 1, 1) := by decide +kernel
theorem dX3_layAnew_2 : decode cX3_layAnew 2 = .ok (.putfield 27, 3) := by decide +kernel
theorem dX3_layAnew_5 : decode cX3_layAnew 5 = .ok (.aload_n 0, 1) := by decide +kernel
theorem dX3_layAnew_6 : decode cX3_layAnew 6 = .ok (.iconst 0, 1) := by decide +kernel
theorem dX3_layAnew_7 : decode cX3_layAnew 7 = .ok (.putfield 31, 3) := by decide +kernel
theorem dX3_layAnew_10 : decode cX3_layAnew 10 = .ok (.aload_n 0, 1) := by decide +kernel
theorem dX3_layAnew_11 : decode cX3_layAnew 11 = .ok (.iconst 0, 1) := by decide +kernel
theorem dX3_layAnew_12 : decode cX3_layAnew 12 = .ok (.putfield 34, 3) := by decide +kernel
theorem dX3_layAnew_15 : decode cX3_layAnew 15 = .ok (.aload_n 0, 1) := by decide +kernel
theorem dX3_layAnew_16 : decode cX3_layAnew 16 = .ok (.iconst 0, 1) := by decide +kernel
theorem dX3_layAnew_17 : decode cX3_layAnew 17 = .ok (.putfield 37, 3) := by decide +kernel
theorem dX3_layAnew_20 : decode cX3_layAnew 20 = .ok (.aload_n 0, 1) := by decide +kernel
theorem dX3_layAnew_21 : decode cX3_layAnew 21 = .ok (.iconst 0, 1) := by decide +kernel
theorem dX3_layAnew_22 : decode cX3_layAnew 22 = .ok (.putfield 40, 3) := by decide +kernel
theorem dX3_layAnew_25 : decode cX3_layAnew 25 = .ok (.return_, 1) := by decide +kernel
theorem dX3_copyFrom_0 : decode cX3_copyFrom 0 = .ok (.aload_n 0, 1) := by decide +kernel
theorem dX3_copyFrom_1 : decode cX3_copyFrom 1 = .ok (.aload_n 1, 1) := by decide +kernel
theorem dX3_copyFrom_2 : decode cX3_copyFrom 2 = .ok (.getfield 27, 3) := by decide +kernel
theorem dX3_copyFrom_5 : decode cX3_copyFrom 5 = .ok (.putfield 27, 3) := by decide +kernel
theorem dX3_copyFrom_8 : decode cX3_copyFrom 8 = .ok (.aload_n 0, 1) := by decide +kernel
theorem dX3_copyFrom_9 : decode cX3_copyFrom 9 = .ok (.aload_n 1, 1) := by decide +kernel
theorem dX3_copyFrom_10 : decode cX3_copyFrom 10 = .ok (.getfield 31, 3) := by decide +kernel
theorem dX3_copyFrom_13 : decode cX3_copyFrom 13 = .ok (.putfield 31, 3) := by decide +kernel
theorem dX3_copyFrom_16 : decode cX3_copyFrom 16 = .ok (.aload_n 0, 1) := by decide +kernel
theorem dX3_copyFrom_17 : decode cX3_copyFrom 17 = .ok (.aload_n 1, 1) := by decide +kernel
theorem dX3_copyFrom_18 : decode cX3_copyFrom 18 = .ok (.getfield 34, 3) := by decide +kernel
theorem dX3_copyFrom_21 : decode cX3_copyFrom 21 = .ok (.putfield 34, 3) := by decide +kernel
theorem dX3_copyFrom_24 : decode cX3_copyFrom 24 = .ok (.aload_n 0, 1) := by decide +kernel
theorem dX3_copyFrom_25 : decode cX3_copyFrom 25 = .ok (.aload_n 1, 1) := by decide +kernel
theorem dX3_copyFrom_26 : decode cX3_copyFrom 26 = .ok (.getfield 37, 3) := by decide +kernel
theorem dX3_copyFrom_29 : decode cX3_copyFrom 29 = .ok (.putfield 37, 3) := by decide +kernel
theorem dX3_copyFrom_32 : decode cX3_copyFrom 32 = .ok (.aload_n 0, 1) := by decide +kernel
theorem dX3_copyFrom_33 : decode cX3_copyFrom 33 = .ok (.aload_n 1, 1) := by decide +kernel
theorem dX3_copyFrom_34 : decode cX3_copyFrom 34 = .ok (.getfield 40, 3) := by decide +kernel
theorem dX3_copyFrom_37 : decode cX3_copyFrom 37 = .ok (.putfield 40, 3) := by decide +kernel
theorem dX3_copyFrom_40 : decode cX3_copyFrom 40 = .ok (.aload_n 1, 1) := by decide +kernel
theorem dX3_copyFrom_41 : decode cX3_copyFrom 41 = .ok (.getfield 9, 3) := by decide +kernel
theorem dX3_copyFrom_44 : decode cX3_copyFrom 44 = .ok (.iconst 0, 1) := by decide +kernel
theorem dX3_copyFrom_45 : decode cX3_copyFrom 45 = .ok (.aload_n 0, 1) := by decide +kernel
theorem dX3_copyFrom_46 : decode cX3_copyFrom 46 = .ok (.getfield 9, 3) := by decide +kernel
theorem dX3_copyFrom_49 : decode cX3_copyFrom 49 = .ok (.iconst 0, 1) := by decide +kernel
theorem dX3_copyFrom_50 : decode cX3_copyFrom 50 = .ok (.bipush 6, 2) := by decide +kernel
theorem dX3_copyFrom_52 : decode cX3_copyFrom 52 = .ok (.invokestatic 43, 3) := by decide +kernel
theorem dX3_copyFrom_55 : decode cX3_copyFrom 55 = .ok (.aload_n 1, 1) := by decide +kernel
theorem dX3_copyFrom_56 : decode cX3_copyFrom 56 = .ok (.getfield 15, 3) := by decide +kernel
theorem dX3_copyFrom_59 : decode cX3_copyFrom 59 = .ok (.iconst 0, 1) := by decide +kernel
theorem dX3_copyFrom_60 : decode cX3_copyFrom 60 = .ok (.aload_n 0, 1) := by decide +kernel
theorem dX3_copyFrom_61 : decode cX3_copyFrom 61 = .ok (.getfield 15, 3) := by decide +kernel
theorem dX3_copyFrom_64 : decode cX3_copyFrom 64 = .ok (.iconst 0, 1) := by decide +kernel
theorem dX3_copyFrom_65 : decode cX3_copyFrom 65 = .ok (.bipush 6, 2) := by decide +kernel
theorem dX3_copyFrom_67 : decode cX3_copyFrom 67 = .ok (.invokestatic 43, 3) := by decide +kernel
theorem dX3_copyFrom_70 : decode cX3_copyFrom 70 = .ok (.aload_n 1, 1) := by decide +kernel
theorem dX3_copyFrom_71 : decode cX3_copyFrom 71 = .ok (.getfield 18, 3) := by decide +kernel
theorem dX3_copyFrom_74 : decode cX3_copyFrom 74 = .ok (.iconst 0, 1) := by decide +kernel
theorem dX3_copyFrom_75 : decode cX3_copyFrom 75 = .ok (.aload_n 0, 1) := by decide +kernel
theorem dX3_copyFrom_76 : decode cX3_copyFrom 76 = .ok (.getfield 18, 3) := by decide +kernel
theorem dX3_copyFrom_79 : decode cX3_copyFrom 79 = .ok (.iconst 0, 1) := by decide +kernel
theorem dX3_copyFrom_80 : decode cX3_copyFrom 80 = .ok (.bipush 6, 2) := by decide +kernel
theorem dX3_copyFrom_82 : decode cX3_copyFrom 82 = .ok (.invokestatic 43, 3) := by decide +kernel
theorem dX3_copyFrom_85 : decode cX3_copyFrom 85 = .ok (.aload_n 1, 1) := by decide +kernel
theorem dX3_copyFrom_86 : decode cX3_copyFrom 86 = .ok (.getfield 21, 3) := by decide +kernel
theorem dX3_copyFrom_89 : decode cX3_copyFrom 89 = .ok (.iconst 0, 1) := by decide +kernel
theorem dX3_copyFrom_90 : decode cX3_copyFrom 90 = .ok (.aload_n 0, 1) := by decide +kernel
theorem dX3_copyFrom_91 : decode cX3_copyFrom 91 = .ok (.getfield 21, 3) := by decide +kernel
theorem dX3_copyFrom_94 : decode cX3_copyFrom 94 = .ok (.iconst 0, 1) := by decide +kernel
theorem dX3_copyFrom_95 : decode cX3_copyFrom 95 = .ok (.bipush 6, 2) := by decide +kernel
theorem dX3_copyFrom_97 : decode cX3_copyFrom 97 = .ok (.invokestatic 43, 3) := by decide +kernel
theorem dX3_copyFrom_100 : decode cX3_copyFrom 100 = .ok (.aload_n 1, 1) := by decide +kernel
theorem dX3_copyFrom_101 : decode cX3_copyFrom 101 = .ok (.getfield 24, 3) := by decide +kernel
theorem dX3_copyFrom_104 : decode cX3_copyFrom 104 = .ok (.iconst 0, 1) := by decide +kernel
theorem dX3_copyFrom_105 : decode cX3_copyFrom 105 = .ok (.aload_n 0, 1) := by decide +kernel
theorem dX3_copyFrom_106 : decode cX3_copyFrom 106 = .ok (.getfield 24, 3) := by decide +kernel
theorem dX3_copyFrom_109 : decode cX3_copyFrom 109 = .ok (.iconst 0, 1) := by decide +kernel
theorem dX3_copyFrom_110 : decode cX3_copyFrom 110 = .ok (.bipush 6, 2) := by decide +kernel
theorem dX3_copyFrom_112 : decode cX3_copyFrom 112 = .ok (.invokestatic 43, 3) := by decide +kernel
theorem dX3_copyFrom_115 : decode cX3_copyFrom 115 = .ok (.return_, 1) := by decide +kernel
theorem dX3_addChild_0 : decode cX3_addChild 0 = .ok (.aload_n 0, 1) := by decide +kernel
theorem dX3_addChild_1 : decode cX3_addChild 1 = .ok (.getfield 40, 3) := by decide +kernel
theorem dX3_addChild_4 : decode cX3_addChild 4 = .ok (.bipush 6, 2) := by decide +kernel
theorem dX3_addChild_6 : decode cX3_addChild 6 = .ok (.if_icmp .lt 6, 3) := by decide +kernel
theorem dX3_addChild_9 : decode cX3_addChild 9 = .ok (.bipush (-4), 2) := by decide +kernel
theorem dX3_addChild_11 : decode cX3_addChild 11 = .ok (.ireturn, 1) := by decide +kernel
theorem dX3_addChild_12 : decode cX3_addChild 12 = .ok (.aload_n 0, 1) := by decide +kernel
theorem dX3_addChild_13 : decode cX3_addChild 13 = .ok (.getfield 40, 3) := by decide +kernel
theorem dX3_addChild_16 : decode cX3_addChild 16 = .ok (.istore 5, 2) := by decide +kernel
theorem dX3_addChild_18 : decode cX3_addChild 18 = .ok (.aload_n 0, 1) := by decide +kernel
theorem dX3_addChild_19 : decode cX3_addChild 19 = .ok (.getfield 9, 3) := by decide +kernel
theorem dX3_addChild_22 : decode cX3_addChild 22 = .ok (.iload 5, 2) := by decide +kernel
theorem dX3_addChild_24 : decode cX3_addChild 24 = .ok (.iload_n 1, 1) := by decide +kernel
theorem dX3_addChild_25 : decode cX3_addChild 25 = .ok (.iastore, 1) := by decide +kernel
theorem dX3_addChild_26 : decode cX3_addChild 26 = .ok (.aload_n 0, 1) := by decide +kernel
theorem dX3_addChild_27 : decode cX3_addChild 27 = .ok (.getfield 15, 3) := by decide +kernel
theorem dX3_addChild_30 : decode cX3_addChild 30 = .ok (.iload 5, 2) := by decide +kernel
theorem dX3_addChild_32 : decode cX3_addChild 32 = .ok (.iload_n 2, 1) := by decide +kernel
theorem dX3_addChild_33 : decode cX3_addChild 33 = .ok (.iastore, 1) := by decide +kernel
theorem dX3_addChild_34 : decode cX3_addChild 34 = .ok (.aload_n 0, 1) := by decide +kernel
theorem dX3_addChild_35 : decode cX3_addChild 35 = .ok (.getfield 18, 3) := by decide +kernel
theorem dX3_addChild_38 : decode cX3_addChild 38 = .ok (.iload 5, 2) := by decide +kernel
theorem dX3_addChild_40 : decode cX3_addChild 40 = .ok (.iload_n 3, 1) := by decide +kernel
theorem dX3_addChild_41 : decode cX3_addChild 41 = .ok (.iastore, 1) := by decide +kernel
theorem dX3_addChild_42 : decode cX3_addChild 42 = .ok (.aload_n 0, 1) := by decide +kernel
theorem dX3_addChild_43 : decode cX3_addChild 43 = .ok (.getfield 21, 3) := by decide +kernel
theorem dX3_addChild_46 : decode cX3_addChild 46 = .ok (.iload 5, 2) := by decide +kernel
theorem dX3_addChild_48 : decode cX3_addChild 48 = .ok (.iload 4, 2) := by decide +kernel
theorem dX3_addChild_50 : decode cX3_addChild 50 = .ok (.iastore, 1) := by decide +kernel
theorem dX3_addChild_51 : decode cX3_addChild 51 = .ok (.aload_n 0, 1) := by decide +kernel
theorem dX3_addChild_52 : decode cX3_addChild 52 = .ok (.getfield 24, 3) := by decide +kernel
theorem dX3_addChild_55 : decode cX3_addChild 55 = .ok (.iload 5, 2) := by decide +kernel
theorem dX3_addChild_57 : decode cX3_addChild 57 = .ok (.iconst 0, 1) := by decide +kernel
theorem dX3_addChild_58 : decode cX3_addChild 58 = .ok (.iastore, 1) := by decide +kernel
theorem dX3_addChild_59 : decode cX3_addChild 59 = .ok (.aload_n 0, 1) := by decide +kernel
theorem dX3_addChild_60 : decode cX3_addChild 60 = .ok (.iload 5, 2) := by decide +kernel
theorem dX3_addChild_62 : decode cX3_addChild 62 = .ok (.iconst 1, 1) := by decide +kernel
theorem dX3_addChild_63 : decode cX3_addChild 63 = .ok (.iadd, 1) := by decide +kernel
theorem dX3_addChild_64 : decode cX3_addChild 64 = .ok (.putfield 40, 3) := by decide +kernel
theorem dX3_addChild_67 : decode cX3_addChild 67 = .ok (.iload 5, 2) := by decide +kernel
theorem dX3_addChild_69 : decode cX3_addChild 69 = .ok (.ireturn, 1) := by decide +kernel
theorem dX3_partOf_0 : decode cX3_partOf 0 = .ok (.iload_n 2, 1) := by decide +kernel
theorem dX3_partOf_1 : decode cX3_partOf 1 = .ok (.tableswitch 59 0 3 #[31, 38, 45, 52], 31) := by decide +kernel
theorem dX3_partOf_32 : decode cX3_partOf 32 = .ok (.aload_n 0, 1) := by decide +kernel
theorem dX3_partOf_33 : decode cX3_partOf 33 = .ok (.getfield 9, 3) := by decide +kernel
theorem dX3_partOf_36 : decode cX3_partOf 36 = .ok (.iload_n 1, 1) := by decide +kernel
theorem dX3_partOf_37 : decode cX3_partOf 37 = .ok (.iaload, 1) := by decide +kernel
theorem dX3_partOf_38 : decode cX3_partOf 38 = .ok (.ireturn, 1) := by decide +kernel
theorem dX3_partOf_39 : decode cX3_partOf 39 = .ok (.aload_n 0, 1) := by decide +kernel
theorem dX3_partOf_40 : decode cX3_partOf 40 = .ok (.getfield 15, 3) := by decide +kernel
theorem dX3_partOf_43 : decode cX3_partOf 43 = .ok (.iload_n 1, 1) := by decide +kernel
theorem dX3_partOf_44 : decode cX3_partOf 44 = .ok (.iaload, 1) := by decide +kernel
theorem dX3_partOf_45 : decode cX3_partOf 45 = .ok (.ireturn, 1) := by decide +kernel
theorem dX3_partOf_46 : decode cX3_partOf 46 = .ok (.aload_n 0, 1) := by decide +kernel
theorem dX3_partOf_47 : decode cX3_partOf 47 = .ok (.getfield 18, 3) := by decide +kernel
theorem dX3_partOf_50 : decode cX3_partOf 50 = .ok (.iload_n 1, 1) := by decide +kernel
theorem dX3_partOf_51 : decode cX3_partOf 51 = .ok (.iaload, 1) := by decide +kernel
theorem dX3_partOf_52 : decode cX3_partOf 52 = .ok (.ireturn, 1) := by decide +kernel
theorem dX3_partOf_53 : decode cX3_partOf 53 = .ok (.aload_n 0, 1) := by decide +kernel
theorem dX3_partOf_54 : decode cX3_partOf 54 = .ok (.getfield 21, 3) := by decide +kernel
theorem dX3_partOf_57 : decode cX3_partOf 57 = .ok (.iload_n 1, 1) := by decide +kernel
theorem dX3_partOf_58 : decode cX3_partOf 58 = .ok (.iaload, 1) := by decide +kernel
theorem dX3_partOf_59 : decode cX3_partOf 59 = .ok (.ireturn, 1) := by decide +kernel
theorem dX3_partOf_60 : decode cX3_partOf 60 = .ok (.aload_n 0, 1) := by decide +kernel
theorem dX3_partOf_61 : decode cX3_partOf 61 = .ok (.getfield 24, 3) := by decide +kernel
theorem dX3_partOf_64 : decode cX3_partOf 64 = .ok (.iload_n 1, 1) := by decide +kernel
theorem dX3_partOf_65 : decode cX3_partOf 65 = .ok (.iaload, 1) := by decide +kernel
theorem dX3_partOf_66 : decode cX3_partOf 66 = .ok (.ireturn, 1) := by decide +kernel
theorem dX3_childAt_0 : decode cX3_childAt 0 = .ok (.iconst 0, 1) := by decide +kernel
theorem dX3_childAt_1 : decode cX3_childAt 1 = .ok (.istore_n 2, 1) := by decide +kernel
theorem dX3_childAt_2 : decode cX3_childAt 2 = .ok (.iload_n 2, 1) := by decide +kernel
theorem dX3_childAt_3 : decode cX3_childAt 3 = .ok (.aload_n 0, 1) := by decide +kernel
theorem dX3_childAt_4 : decode cX3_childAt 4 = .ok (.getfield 40, 3) := by decide +kernel
theorem dX3_childAt_7 : decode cX3_childAt 7 = .ok (.if_icmp .ge 21, 3) := by decide +kernel
theorem dX3_childAt_10 : decode cX3_childAt 10 = .ok (.aload_n 0, 1) := by decide +kernel
theorem dX3_childAt_11 : decode cX3_childAt 11 = .ok (.getfield 15, 3) := by decide +kernel
theorem dX3_childAt_14 : decode cX3_childAt 14 = .ok (.iload_n 2, 1) := by decide +kernel
theorem dX3_childAt_15 : decode cX3_childAt 15 = .ok (.iaload, 1) := by decide +kernel
theorem dX3_childAt_16 : decode cX3_childAt 16 = .ok (.iload_n 1, 1) := by decide +kernel
theorem dX3_childAt_17 : decode cX3_childAt 17 = .ok (.if_icmp .ne 5, 3) := by decide +kernel
theorem dX3_childAt_20 : decode cX3_childAt 20 = .ok (.iload_n 2, 1) := by decide +kernel
theorem dX3_childAt_21 : decode cX3_childAt 21 = .ok (.ireturn, 1) := by decide +kernel
theorem dX3_childAt_22 : decode cX3_childAt 22 = .ok (.iinc 2 1, 3) := by decide +kernel
theorem dX3_childAt_25 : decode cX3_childAt 25 = .ok (.goto (-23), 3) := by decide +kernel
theorem dX3_childAt_28 : decode cX3_childAt 28 = .ok (.iconst (-1), 1) := by decide +kernel
theorem dX3_childAt_29 : decode cX3_childAt 29 = .ok (.ireturn, 1) := by decide +kernel
theorem dX3_takenSeats_0 : decode cX3_takenSeats 0 = .ok (.iconst 0, 1) := by decide +kernel
theorem dX3_takenSeats_1 : decode cX3_takenSeats 1 = .ok (.istore_n 1, 1) := by decide +kernel
theorem dX3_takenSeats_2 : decode cX3_takenSeats 2 = .ok (.iconst 0, 1) := by decide +kernel
theorem dX3_takenSeats_3 : decode cX3_takenSeats 3 = .ok (.istore_n 2, 1) := by decide +kernel
theorem dX3_takenSeats_4 : decode cX3_takenSeats 4 = .ok (.iload_n 2, 1) := by decide +kernel
theorem dX3_takenSeats_5 : decode cX3_takenSeats 5 = .ok (.aload_n 0, 1) := by decide +kernel
theorem dX3_takenSeats_6 : decode cX3_takenSeats 6 = .ok (.getfield 40, 3) := by decide +kernel
theorem dX3_takenSeats_9 : decode cX3_takenSeats 9 = .ok (.if_icmp .ge 20, 3) := by decide +kernel
theorem dX3_takenSeats_12 : decode cX3_takenSeats 12 = .ok (.iload_n 1, 1) := by decide +kernel
theorem dX3_takenSeats_13 : decode cX3_takenSeats 13 = .ok (.iconst 1, 1) := by decide +kernel
theorem dX3_takenSeats_14 : decode cX3_takenSeats 14 = .ok (.aload_n 0, 1) := by decide +kernel
theorem dX3_takenSeats_15 : decode cX3_takenSeats 15 = .ok (.getfield 15, 3) := by decide +kernel
theorem dX3_takenSeats_18 : decode cX3_takenSeats 18 = .ok (.iload_n 2, 1) := by decide +kernel
theorem dX3_takenSeats_19 : decode cX3_takenSeats 19 = .ok (.iaload, 1) := by decide +kernel
theorem dX3_takenSeats_20 : decode cX3_takenSeats 20 = .ok (.ishl, 1) := by decide +kernel
theorem dX3_takenSeats_21 : decode cX3_takenSeats 21 = .ok (.ior, 1) := by decide +kernel
theorem dX3_takenSeats_22 : decode cX3_takenSeats 22 = .ok (.istore_n 1, 1) := by decide +kernel
theorem dX3_takenSeats_23 : decode cX3_takenSeats 23 = .ok (.iinc 2 1, 3) := by decide +kernel
theorem dX3_takenSeats_26 : decode cX3_takenSeats 26 = .ok (.goto (-22), 3) := by decide +kernel
theorem dX3_takenSeats_29 : decode cX3_takenSeats 29 = .ok (.iload_n 1, 1) := by decide +kernel
theorem dX3_takenSeats_30 : decode cX3_takenSeats 30 = .ok (.ireturn, 1) := by decide +kernel
theorem dX3_nextSeat_0 : decode cX3_nextSeat 0 = .ok (.iload_n 0, 1) := by decide +kernel
theorem dX3_nextSeat_1 : decode cX3_nextSeat 1 = .ok (.iconst 1, 1) := by decide +kernel
theorem dX3_nextSeat_2 : decode cX3_nextSeat 2 = .ok (.iadd, 1) := by decide +kernel
theorem dX3_nextSeat_3 : decode cX3_nextSeat 3 = .ok (.bipush 8, 2) := by decide +kernel
theorem dX3_nextSeat_5 : decode cX3_nextSeat 5 = .ok (.irem, 1) := by decide +kernel
theorem dX3_nextSeat_6 : decode cX3_nextSeat 6 = .ok (.ireturn, 1) := by decide +kernel
theorem dX3_seatAhead_0 : decode cX3_seatAhead 0 = .ok (.iload_n 0, 1) := by decide +kernel
theorem dX3_seatAhead_1 : decode cX3_seatAhead 1 = .ok (.bipush 8, 2) := by decide +kernel
theorem dX3_seatAhead_3 : decode cX3_seatAhead 3 = .ok (.iadd, 1) := by decide +kernel
theorem dX3_seatAhead_4 : decode cX3_seatAhead 4 = .ok (.iconst 1, 1) := by decide +kernel
theorem dX3_seatAhead_5 : decode cX3_seatAhead 5 = .ok (.isub, 1) := by decide +kernel
theorem dX3_seatAhead_6 : decode cX3_seatAhead 6 = .ok (.bipush 8, 2) := by decide +kernel
theorem dX3_seatAhead_8 : decode cX3_seatAhead 8 = .ok (.irem, 1) := by decide +kernel
theorem dX3_seatAhead_9 : decode cX3_seatAhead 9 = .ok (.ireturn, 1) := by decide +kernel
set_option maxRecDepth 20000 in
theorem ggX3_tightIn_X3_nextSeat : GoodIn wsX3_tightIn wsX3_nextSeat := goodIn_r _ [4] (by decide +kernel) (by decide +kernel)
set_option maxRecDepth 20000 in
theorem gX3_tightIn_X3_nextSeat : GoodIn wsX3_tightIn (va_wsS RX3 49 yX3_nextSeat wsX3_nextSeat) := goodIn_app (goodIn_of _ (by decide +kernel)) ggX3_tightIn_X3_nextSeat
set_option maxRecDepth 20000 in
theorem ggX3_tightIn_X3_seatAhead : GoodIn wsX3_tightIn wsX3_seatAhead := goodIn_r _ [7] (by decide +kernel) (by decide +kernel)
set_option maxRecDepth 20000 in
theorem gX3_tightIn_X3_seatAhead : GoodIn wsX3_tightIn (va_wsS RX3 53 yX3_seatAhead wsX3_seatAhead) := goodIn_app (goodIn_of _ (by decide +kernel)) ggX3_tightIn_X3_seatAhead
theorem dX3_tightIn_0 : decode cX3_tightIn 0 = .ok (.iload_n 0, 1) := by decide +kernel
theorem dX3_tightIn_1 : decode cX3_tightIn 1 = .ok (.iload_n 1, 1) := by decide +kernel
theorem dX3_tightIn_2 : decode cX3_tightIn 2 = .ok (.invokestatic 49, 3) := by decide +kernel
theorem dX3_tightIn_5 : decode cX3_tightIn 5 = .ok (.ishr, 1) := by decide +kernel
theorem dX3_tightIn_6 : decode cX3_tightIn 6 = .ok (.iconst 1, 1) := by decide +kernel
theorem dX3_tightIn_7 : decode cX3_tightIn 7 = .ok (.iand, 1) := by decide +kernel
theorem dX3_tightIn_8 : decode cX3_tightIn 8 = .ok (.iload_n 0, 1) := by decide +kernel
theorem dX3_tightIn_9 : decode cX3_tightIn 9 = .ok (.iload_n 1, 1) := by decide +kernel
theorem dX3_tightIn_10 : decode cX3_tightIn 10 = .ok (.invokestatic 53, 3) := by decide +kernel
theorem dX3_tightIn_13 : decode cX3_tightIn 13 = .ok (.ishr, 1) := by decide +kernel
theorem dX3_tightIn_14 : decode cX3_tightIn 14 = .ok (.iconst 1, 1) := by decide +kernel
theorem dX3_tightIn_15 : decode cX3_tightIn 15 = .ok (.iand, 1) := by decide +kernel
theorem dX3_tightIn_16 : decode cX3_tightIn 16 = .ok (.iadd, 1) := by decide +kernel
theorem dX3_tightIn_17 : decode cX3_tightIn 17 = .ok (.ireturn, 1) := by decide +kernel
set_option maxRecDepth 20000 in
theorem ggX3_tightOf_X3_takenSeats : GoodIn wsX3_tightOf wsX3_takenSeats := goodIn_r _ [6, 7, 1, 17, 18, 19, 20, 21, 22, 23, 24, 25, 26] (by decide +kernel) (by decide +kernel)
set_option maxRecDepth 20000 in
theorem gX3_tightOf_X3_takenSeats : GoodIn wsX3_tightOf (wsV RX3 56 RX3 yX3_takenSeats wsX3_takenSeats) := goodIn_app (goodIn_of _ (by decide +kernel)) ggX3_tightOf_X3_takenSeats
set_option maxRecDepth 20000 in
theorem ggX3_tightOf_X3_tightIn : GoodIn wsX3_tightOf wsX3_tightIn := goodIn_r _ [10, 11, 12, 5, 13, 14, 15, 16] (by decide +kernel) (by decide +kernel)
set_option maxRecDepth 20000 in
theorem gX3_tightOf_X3_tightIn : GoodIn wsX3_tightOf (va_wsS RX3 60 yX3_tightIn wsX3_tightIn) := goodIn_app (goodIn_of _ (by decide +kernel)) ggX3_tightOf_X3_tightIn
theorem dX3_tightOf_0 : decode cX3_tightOf 0 = .ok (.aload_n 0, 1) := by decide +kernel
theorem dX3_tightOf_1 : decode cX3_tightOf 1 = .ok (.invokevirtual 56, 3) := by decide +kernel
theorem dX3_tightOf_4 : decode cX3_tightOf 4 = .ok (.aload_n 0, 1) := by decide +kernel
theorem dX3_tightOf_5 : decode cX3_tightOf 5 = .ok (.getfield 15, 3) := by decide +kernel
theorem dX3_tightOf_8 : decode cX3_tightOf 8 = .ok (.iload_n 1, 1) := by decide +kernel
theorem dX3_tightOf_9 : decode cX3_tightOf 9 = .ok (.iaload, 1) := by decide +kernel
theorem dX3_tightOf_10 : decode cX3_tightOf 10 = .ok (.invokestatic 60, 3) := by decide +kernel
theorem dX3_tightOf_13 : decode cX3_tightOf 13 = .ok (.ireturn, 1) := by decide +kernel
set_option maxRecDepth 20000 in
theorem ggX3_nearIf_X5_near : GoodIn wsX3_nearIf wsX5_near := goodIn_r _ [8, 9, 10, 11, 12] (by decide +kernel) (by decide +kernel)
set_option maxRecDepth 20000 in
theorem gX3_nearIf_X5_near_n64 : GoodIn wsX3_nearIf (wsX5_near) := ggX3_nearIf_X5_near
theorem dX3_nearIf_0 : decode cX3_nearIf 0 = .ok (.aload_n 0, 1) := by decide +kernel
theorem dX3_nearIf_1 : decode cX3_nearIf 1 = .ok (.getfield 9, 3) := by decide +kernel
theorem dX3_nearIf_4 : decode cX3_nearIf 4 = .ok (.iload_n 1, 1) := by decide +kernel
theorem dX3_nearIf_5 : decode cX3_nearIf 5 = .ok (.iaload, 1) := by decide +kernel
theorem dX3_nearIf_6 : decode cX3_nearIf 6 = .ok (.aload_n 0, 1) := by decide +kernel
theorem dX3_nearIf_7 : decode cX3_nearIf 7 = .ok (.getfield 21, 3) := by decide +kernel
theorem dX3_nearIf_10 : decode cX3_nearIf 10 = .ok (.iload_n 1, 1) := by decide +kernel
theorem dX3_nearIf_11 : decode cX3_nearIf 11 = .ok (.iaload, 1) := by decide +kernel
theorem dX3_nearIf_12 : decode cX3_nearIf 12 = .ok (.iload_n 2, 1) := by decide +kernel
theorem dX3_nearIf_13 : decode cX3_nearIf 13 = .ok (.aload_n 0, 1) := by decide +kernel
theorem dX3_nearIf_14 : decode cX3_nearIf 14 = .ok (.getfield 18, 3) := by decide +kernel
theorem dX3_nearIf_17 : decode cX3_nearIf 17 = .ok (.iload_n 1, 1) := by decide +kernel
theorem dX3_nearIf_18 : decode cX3_nearIf 18 = .ok (.iaload, 1) := by decide +kernel
theorem dX3_nearIf_19 : decode cX3_nearIf 19 = .ok (.aload_n 0, 1) := by decide +kernel
theorem dX3_nearIf_20 : decode cX3_nearIf 20 = .ok (.getfield 24, 3) := by decide +kernel
theorem dX3_nearIf_23 : decode cX3_nearIf 23 = .ok (.iload_n 1, 1) := by decide +kernel
theorem dX3_nearIf_24 : decode cX3_nearIf 24 = .ok (.iaload, 1) := by decide +kernel
theorem dX3_nearIf_25 : decode cX3_nearIf 25 = .ok (.aload_n 0, 1) := by decide +kernel
theorem dX3_nearIf_26 : decode cX3_nearIf 26 = .ok (.getfield 37, 3) := by decide +kernel
theorem dX3_nearIf_29 : decode cX3_nearIf 29 = .ok (.invokestatic 64, 3) := by decide +kernel
theorem dX3_nearIf_32 : decode cX3_nearIf 32 = .ok (.ireturn, 1) := by decide +kernel
set_option maxRecDepth 20000 in
theorem ggX3_nearOf_X3_tightOf : GoodIn wsX3_nearOf wsX3_tightOf := goodIn_r _ [5, 6, 7, 8, 9, 4, 10, 11, 12, 13, 14, 15, 16, 17, 18, 19, 20, 37, 38, 39, 40, 41, 42, 43, 44, 45, 46] (by decide +kernel) (by decide +kernel)
set_option maxRecDepth 20000 in
theorem gX3_nearOf_X3_tightOf : GoodIn wsX3_nearOf (wsV RX3 68 RX3 yX3_tightOf wsX3_tightOf) := goodIn_app (goodIn_of _ (by decide +kernel)) ggX3_nearOf_X3_tightOf
set_option maxRecDepth 20000 in
theorem ggX3_nearOf_X3_nearIf : GoodIn wsX3_nearOf wsX3_nearIf := goodIn_r _ [24, 25, 26, 27, 28, 29, 30, 31, 32, 33, 34, 35, 36, 37, 38, 39, 40, 41, 42, 43, 44, 45, 46] (by decide +kernel) (by decide +kernel)
set_option maxRecDepth 20000 in
theorem gX3_nearOf_X3_nearIf : GoodIn wsX3_nearOf (wsV RX3 71 RX3 yX3_nearIf wsX3_nearIf) := goodIn_app (goodIn_of _ (by decide +kernel)) ggX3_nearOf_X3_nearIf
theorem dX3_nearOf_0 : decode cX3_nearOf 0 = .ok (.aload_n 0, 1) := by decide +kernel
theorem dX3_nearOf_1 : decode cX3_nearOf 1 = .ok (.iload_n 1, 1) := by decide +kernel
theorem dX3_nearOf_2 : decode cX3_nearOf 2 = .ok (.aload_n 0, 1) := by decide +kernel
theorem dX3_nearOf_3 : decode cX3_nearOf 3 = .ok (.iload_n 1, 1) := by decide +kernel
theorem dX3_nearOf_4 : decode cX3_nearOf 4 = .ok (.invokevirtual 68, 3) := by decide +kernel
theorem dX3_nearOf_7 : decode cX3_nearOf 7 = .ok (.invokevirtual 71, 3) := by decide +kernel
theorem dX3_nearOf_10 : decode cX3_nearOf 10 = .ok (.ireturn, 1) := by decide +kernel
set_option maxRecDepth 20000 in
theorem ggX3_whomOf_X3_nextSeat : GoodIn wsX3_whomOf wsX3_nextSeat := goodIn_r _ [5] (by decide +kernel) (by decide +kernel)
set_option maxRecDepth 20000 in
theorem gX3_whomOf_X3_nextSeat : GoodIn wsX3_whomOf (va_wsS RX3 49 yX3_nextSeat wsX3_nextSeat) := goodIn_app (goodIn_of _ (by decide +kernel)) ggX3_whomOf_X3_nextSeat
set_option maxRecDepth 20000 in
theorem ggX3_whomOf_X3_childAt : GoodIn wsX3_whomOf wsX3_childAt := goodIn_r _ [9, 10, 1, 14, 15, 16, 17, 18, 19, 20, 21, 22, 23] (by decide +kernel) (by decide +kernel)
set_option maxRecDepth 20000 in
theorem gX3_whomOf_X3_childAt : GoodIn wsX3_whomOf (wsV RX3 74 RX3 yX3_childAt wsX3_childAt) := goodIn_app (goodIn_of _ (by decide +kernel)) ggX3_whomOf_X3_childAt
set_option maxRecDepth 20000 in
theorem ggX3_whomOf_X3_seatAhead : GoodIn wsX3_whomOf wsX3_seatAhead := goodIn_r _ [13] (by decide +kernel) (by decide +kernel)
set_option maxRecDepth 20000 in
theorem gX3_whomOf_X3_seatAhead : GoodIn wsX3_whomOf (va_wsS RX3 53 yX3_seatAhead wsX3_seatAhead) := goodIn_app (goodIn_of _ (by decide +kernel)) ggX3_whomOf_X3_seatAhead
theorem dX3_whomOf_0 : decode cX3_whomOf 0 = .ok (.aload_n 0, 1) := by decide +kernel
theorem dX3_whomOf_1 : decode cX3_whomOf 1 = .ok (.aload_n 0, 1) := by decide +kernel
theorem dX3_whomOf_2 : decode cX3_whomOf 2 = .ok (.getfield 15, 3) := by decide +kernel
theorem dX3_whomOf_5 : decode cX3_whomOf 5 = .ok (.iload_n 1, 1) := by decide +kernel
theorem dX3_whomOf_6 : decode cX3_whomOf 6 = .ok (.iaload, 1) := by decide +kernel
theorem dX3_whomOf_7 : decode cX3_whomOf 7 = .ok (.invokestatic 49, 3) := by decide +kernel
theorem dX3_whomOf_10 : decode cX3_whomOf 10 = .ok (.invokevirtual 74, 3) := by decide +kernel
theorem dX3_whomOf_13 : decode cX3_whomOf 13 = .ok (.istore_n 2, 1) := by decide +kernel
theorem dX3_whomOf_14 : decode cX3_whomOf 14 = .ok (.iload_n 2, 1) := by decide +kernel
theorem dX3_whomOf_15 : decode cX3_whomOf 15 = .ok (.iconst (-1), 1) := by decide +kernel
theorem dX3_whomOf_16 : decode cX3_whomOf 16 = .ok (.if_icmp .eq 7, 3) := by decide +kernel
theorem dX3_whomOf_19 : decode cX3_whomOf 19 = .ok (.iload_n 2, 1) := by decide +kernel
theorem dX3_whomOf_20 : decode cX3_whomOf 20 = .ok (.goto 16, 3) := by decide +kernel
theorem dX3_whomOf_23 : decode cX3_whomOf 23 = .ok (.aload_n 0, 1) := by decide +kernel
theorem dX3_whomOf_24 : decode cX3_whomOf 24 = .ok (.aload_n 0, 1) := by decide +kernel
theorem dX3_whomOf_25 : decode cX3_whomOf 25 = .ok (.getfield 15, 3) := by decide +kernel
theorem dX3_whomOf_28 : decode cX3_whomOf 28 = .ok (.iload_n 1, 1) := by decide +kernel
theorem dX3_whomOf_29 : decode cX3_whomOf 29 = .ok (.iaload, 1) := by decide +kernel
theorem dX3_whomOf_30 : decode cX3_whomOf 30 = .ok (.invokestatic 53, 3) := by decide +kernel
theorem dX3_whomOf_33 : decode cX3_whomOf 33 = .ok (.invokevirtual 74, 3) := by decide +kernel
theorem dX3_whomOf_36 : decode cX3_whomOf 36 = .ok (.ireturn, 1) := by decide +kernel
set_option maxRecDepth 20000 in
theorem ggX3_isGuarded_X3_nextSeat : GoodIn wsX3_isGuarded wsX3_nextSeat := goodIn_r _ [5] (by decide +kernel) (by decide +kernel)
set_option maxRecDepth 20000 in
theorem gX3_isGuarded_X3_nextSeat : GoodIn wsX3_isGuarded (va_wsS RX3 49 yX3_nextSeat wsX3_nextSeat) := goodIn_app (goodIn_of _ (by decide +kernel)) ggX3_isGuarded_X3_nextSeat
set_option maxRecDepth 20000 in
theorem ggX3_isGuarded_X3_seatAhead : GoodIn wsX3_isGuarded wsX3_seatAhead := goodIn_r _ [8] (by decide +kernel) (by decide +kernel)
set_option maxRecDepth 20000 in
theorem gX3_isGuarded_X3_seatAhead : GoodIn wsX3_isGuarded (va_wsS RX3 53 yX3_seatAhead wsX3_seatAhead) := goodIn_app (goodIn_of _ (by decide +kernel)) ggX3_isGuarded_X3_seatAhead
theorem dX3_isGuarded_0 : decode cX3_isGuarded 0 = .ok (.iload_n 1, 1) := by decide +kernel
theorem dX3_isGuarded_1 : decode cX3_isGuarded 1 = .ok (.aload_n 0, 1) := by decide +kernel
theorem dX3_isGuarded_2 : decode cX3_isGuarded 2 = .ok (.getfield 27, 3) := by decide +kernel
theorem dX3_isGuarded_5 : decode cX3_isGuarded 5 = .ok (.if_icmp .eq 25, 3) := by decide +kernel
theorem dX3_isGuarded_8 : decode cX3_isGuarded 8 = .ok (.iload_n 1, 1) := by decide +kernel
theorem dX3_isGuarded_9 : decode cX3_isGuarded 9 = .ok (.aload_n 0, 1) := by decide +kernel
theorem dX3_isGuarded_10 : decode cX3_isGuarded 10 = .ok (.getfield 27, 3) := by decide +kernel
theorem dX3_isGuarded_13 : decode cX3_isGuarded 13 = .ok (.invokestatic 49, 3) := by decide +kernel
theorem dX3_isGuarded_16 : decode cX3_isGuarded 16 = .ok (.if_icmp .eq 14, 3) := by decide +kernel
theorem dX3_isGuarded_19 : decode cX3_isGuarded 19 = .ok (.iload_n 1, 1) := by decide +kernel
theorem dX3_isGuarded_20 : decode cX3_isGuarded 20 = .ok (.aload_n 0, 1) := by decide +kernel
theorem dX3_isGuarded_21 : decode cX3_isGuarded 21 = .ok (.getfield 27, 3) := by decide +kernel
theorem dX3_isGuarded_24 : decode cX3_isGuarded 24 = .ok (.invokestatic 53, 3) := by decide +kernel
theorem dX3_isGuarded_27 : decode cX3_isGuarded 27 = .ok (.if_icmp .ne 7, 3) := by decide +kernel
theorem dX3_isGuarded_30 : decode cX3_isGuarded 30 = .ok (.iconst 1, 1) := by decide +kernel
theorem dX3_isGuarded_31 : decode cX3_isGuarded 31 = .ok (.goto 4, 3) := by decide +kernel
theorem dX3_isGuarded_34 : decode cX3_isGuarded 34 = .ok (.iconst 0, 1) := by decide +kernel
theorem dX3_isGuarded_35 : decode cX3_isGuarded 35 = .ok (.ireturn, 1) := by decide +kernel
set_option maxRecDepth 20000 in
theorem ggX3_biters_X3_takenSeats : GoodIn wsX3_biters wsX3_takenSeats := goodIn_r _ [7, 1, 2, 38, 39, 40, 41, 42, 43, 44, 45, 46, 47] (by decide +kernel) (by decide +kernel)
set_option maxRecDepth 20000 in
theorem gX3_biters_X3_takenSeats : GoodIn wsX3_biters (wsV RX3 56 RX3 yX3_takenSeats wsX3_takenSeats) := goodIn_app (goodIn_of _ (by decide +kernel)) ggX3_biters_X3_takenSeats
set_option maxRecDepth 20000 in
theorem ggX3_biters_X3_tightIn : GoodIn wsX3_biters wsX3_tightIn := goodIn_r _ [10, 11, 12, 6, 13, 14, 15, 16] (by decide +kernel) (by decide +kernel)
set_option maxRecDepth 20000 in
theorem gX3_biters_X3_tightIn : GoodIn wsX3_biters (va_wsS RX3 60 yX3_tightIn wsX3_tightIn) := goodIn_app (goodIn_of _ (by decide +kernel)) ggX3_biters_X3_tightIn
set_option maxRecDepth 20000 in
theorem ggX3_biters_X3_isGuarded : GoodIn wsX3_biters wsX3_isGuarded := goodIn_r _ [20, 21, 11, 12, 6, 13, 14, 15, 16, 38, 39, 40, 41, 42, 43, 44, 45, 46, 47] (by decide +kernel) (by decide +kernel)
set_option maxRecDepth 20000 in
theorem gX3_biters_X3_isGuarded : GoodIn wsX3_biters (wsV RX3 77 RX3 yX3_isGuarded wsX3_isGuarded) := goodIn_app (goodIn_of _ (by decide +kernel)) ggX3_biters_X3_isGuarded
set_option maxRecDepth 20000 in
theorem ggX3_biters_X3_nearIf : GoodIn wsX3_biters wsX3_nearIf := goodIn_r _ [25, 26, 27, 28, 29, 30, 31, 32, 33, 34, 35, 36, 37, 38, 39, 40, 41, 42, 43, 44, 45, 46, 47] (by decide +kernel) (by decide +kernel)
set_option maxRecDepth 20000 in
theorem gX3_biters_X3_nearIf : GoodIn wsX3_biters (wsV RX3 71 RX3 yX3_nearIf wsX3_nearIf) := goodIn_app (goodIn_of _ (by decide +kernel)) ggX3_biters_X3_nearIf
theorem dX3_biters_0 : decode cX3_biters 0 = .ok (.aload_n 0, 1) := by decide +kernel
theorem dX3_biters_1 : decode cX3_biters 1 = .ok (.invokevirtual 56, 3) := by decide +kernel
theorem dX3_biters_4 : decode cX3_biters 4 = .ok (.istore_n 1, 1) := by decide +kernel
theorem dX3_biters_5 : decode cX3_biters 5 = .ok (.iconst 0, 1) := by decide +kernel
theorem dX3_biters_6 : decode cX3_biters 6 = .ok (.istore_n 2, 1) := by decide +kernel
theorem dX3_biters_7 : decode cX3_biters 7 = .ok (.iconst 0, 1) := by decide +kernel
theorem dX3_biters_8 : decode cX3_biters 8 = .ok (.istore_n 3, 1) := by decide +kernel
theorem dX3_biters_9 : decode cX3_biters 9 = .ok (.iload_n 3, 1) := by decide +kernel
theorem dX3_biters_10 : decode cX3_biters 10 = .ok (.aload_n 0, 1) := by decide +kernel
theorem dX3_biters_11 : decode cX3_biters 11 = .ok (.getfield 40, 3) := by decide +kernel
theorem dX3_biters_14 : decode cX3_biters 14 = .ok (.if_icmp .ge 57, 3) := by decide +kernel
theorem dX3_biters_17 : decode cX3_biters 17 = .ok (.iload_n 1, 1) := by decide +kernel
theorem dX3_biters_18 : decode cX3_biters 18 = .ok (.aload_n 0, 1) := by decide +kernel
theorem dX3_biters_19 : decode cX3_biters 19 = .ok (.getfield 15, 3) := by decide +kernel
theorem dX3_biters_22 : decode cX3_biters 22 = .ok (.iload_n 3, 1) := by decide +kernel
theorem dX3_biters_23 : decode cX3_biters 23 = .ok (.iaload, 1) := by decide +kernel
theorem dX3_biters_24 : decode cX3_biters 24 = .ok (.invokestatic 60, 3) := by decide +kernel
theorem dX3_biters_27 : decode cX3_biters 27 = .ok (.istore 4, 2) := by decide +kernel
theorem dX3_biters_29 : decode cX3_biters 29 = .ok (.iload 4, 2) := by decide +kernel
theorem dX3_biters_31 : decode cX3_biters 31 = .ok (.ifCond .le 34, 3) := by decide +kernel
theorem dX3_biters_34 : decode cX3_biters 34 = .ok (.aload_n 0, 1) := by decide +kernel
theorem dX3_biters_35 : decode cX3_biters 35 = .ok (.aload_n 0, 1) := by decide +kernel
theorem dX3_biters_36 : decode cX3_biters 36 = .ok (.getfield 15, 3) := by decide +kernel
theorem dX3_biters_39 : decode cX3_biters 39 = .ok (.iload_n 3, 1) := by decide +kernel
theorem dX3_biters_40 : decode cX3_biters 40 = .ok (.iaload, 1) := by decide +kernel
theorem dX3_biters_41 : decode cX3_biters 41 = .ok (.invokevirtual 77, 3) := by decide +kernel
theorem dX3_biters_44 : decode cX3_biters 44 = .ok (.ifCond .ne 21, 3) := by decide +kernel
theorem dX3_biters_47 : decode cX3_biters 47 = .ok (.aload_n 0, 1) := by decide +kernel
theorem dX3_biters_48 : decode cX3_biters 48 = .ok (.iload_n 3, 1) := by decide +kernel
theorem dX3_biters_49 : decode cX3_biters 49 = .ok (.iload 4, 2) := by decide +kernel
theorem dX3_biters_51 : decode cX3_biters 51 = .ok (.invokevirtual 71, 3) := by decide +kernel
theorem dX3_biters_54 : decode cX3_biters 54 = .ok (.bipush 12, 2) := by decide +kernel
theorem dX3_biters_56 : decode cX3_biters 56 = .ok (.if_icmp .lt 9, 3) := by decide +kernel
theorem dX3_biters_59 : decode cX3_biters 59 = .ok (.iload_n 2, 1) := by decide +kernel
theorem dX3_biters_60 : decode cX3_biters 60 = .ok (.iconst 1, 1) := by decide +kernel
theorem dX3_biters_61 : decode cX3_biters 61 = .ok (.iload_n 3, 1) := by decide +kernel
theorem dX3_biters_62 : decode cX3_biters 62 = .ok (.ishl, 1) := by decide +kernel
theorem dX3_biters_63 : decode cX3_biters 63 = .ok (.ior, 1) := by decide +kernel
theorem dX3_biters_64 : decode cX3_biters 64 = .ok (.istore_n 2, 1) := by decide +kernel
theorem dX3_biters_65 : decode cX3_biters 65 = .ok (.iinc 3 1, 3) := by decide +kernel
theorem dX3_biters_68 : decode cX3_biters 68 = .ok (.goto (-59), 3) := by decide +kernel
theorem dX3_biters_71 : decode cX3_biters 71 = .ok (.iload_n 2, 1) := by decide +kernel
theorem dX3_biters_72 : decode cX3_biters 72 = .ok (.ireturn, 1) := by decide +kernel
set_option maxRecDepth 20000 in
theorem ggX3_timesBitten_X3_whomOf : GoodIn wsX3_timesBitten wsX3_whomOf := goodIn_r _ [6, 7, 8, 9, 5, 10, 11, 12, 13, 14, 1, 15, 16, 17, 18, 19, 20, 21, 22, 23, 24, 25, 26, 27] (by decide +kernel) (by decide +kernel)
set_option maxRecDepth 20000 in
theorem gX3_timesBitten_X3_whomOf : GoodIn wsX3_timesBitten (wsV RX3 81 RX3 yX3_whomOf wsX3_whomOf) := goodIn_app (goodIn_of _ (by decide +kernel)) ggX3_timesBitten_X3_whomOf
theorem dX3_timesBitten_0 : decode cX3_timesBitten 0 = .ok (.iconst 0, 1) := by decide +kernel
theorem dX3_timesBitten_1 : decode cX3_timesBitten 1 = .ok (.istore_n 3, 1) := by decide +kernel
theorem dX3_timesBitten_2 : decode cX3_timesBitten 2 = .ok (.iconst 0, 1) := by decide +kernel
theorem dX3_timesBitten_3 : decode cX3_timesBitten 3 = .ok (.istore 4, 2) := by decide +kernel
theorem dX3_timesBitten_5 : decode cX3_timesBitten 5 = .ok (.iload 4, 2) := by decide +kernel
theorem dX3_timesBitten_7 : decode cX3_timesBitten 7 = .ok (.aload_n 0, 1) := by decide +kernel
theorem dX3_timesBitten_8 : decode cX3_timesBitten 8 = .ok (.getfield 40, 3) := by decide +kernel
theorem dX3_timesBitten_11 : decode cX3_timesBitten 11 = .ok (.if_icmp .ge 32, 3) := by decide +kernel
theorem dX3_timesBitten_14 : decode cX3_timesBitten 14 = .ok (.iload_n 2, 1) := by decide +kernel
theorem dX3_timesBitten_15 : decode cX3_timesBitten 15 = .ok (.iload 4, 2) := by decide +kernel
theorem dX3_timesBitten_17 : decode cX3_timesBitten 17 = .ok (.ishr, 1) := by decide +kernel
theorem dX3_timesBitten_18 : decode cX3_timesBitten 18 = .ok (.iconst 1, 1) := by decide +kernel
theorem dX3_timesBitten_19 : decode cX3_timesBitten 19 = .ok (.iand, 1) := by decide +kernel
theorem dX3_timesBitten_20 : decode cX3_timesBitten 20 = .ok (.iconst 1, 1) := by decide +kernel
theorem dX3_timesBitten_21 : decode cX3_timesBitten 21 = .ok (.if_icmp .ne 16, 3) := by decide +kernel
theorem dX3_timesBitten_24 : decode cX3_timesBitten 24 = .ok (.aload_n 0, 1) := by decide +kernel
theorem dX3_timesBitten_25 : decode cX3_timesBitten 25 = .ok (.iload 4, 2) := by decide +kernel
theorem dX3_timesBitten_27 : decode cX3_timesBitten 27 = .ok (.invokevirtual 81, 3) := by decide +kernel
theorem dX3_timesBitten_30 : decode cX3_timesBitten 30 = .ok (.iload_n 1, 1) := by decide +kernel
theorem dX3_timesBitten_31 : decode cX3_timesBitten 31 = .ok (.if_icmp .ne 6, 3) := by decide +kernel
theorem dX3_timesBitten_34 : decode cX3_timesBitten 34 = .ok (.iinc 3 1, 3) := by decide +kernel
theorem dX3_timesBitten_37 : decode cX3_timesBitten 37 = .ok (.iinc 4 1, 3) := by decide +kernel
theorem dX3_timesBitten_40 : decode cX3_timesBitten 40 = .ok (.goto (-35), 3) := by decide +kernel
theorem dX3_timesBitten_43 : decode cX3_timesBitten 43 = .ok (.iload_n 3, 1) := by decide +kernel
theorem dX3_timesBitten_44 : decode cX3_timesBitten 44 = .ok (.ireturn, 1) := by decide +kernel
theorem dX3_giveCarrot_0 : decode cX3_giveCarrot 0 = .ok (.aload_n 0, 1) := by decide +kernel
theorem dX3_giveCarrot_1 : decode cX3_giveCarrot 1 = .ok (.getfield 21, 3) := by decide +kernel
theorem dX3_giveCarrot_4 : decode cX3_giveCarrot 4 = .ok (.iload_n 1, 1) := by decide +kernel
theorem dX3_giveCarrot_5 : decode cX3_giveCarrot 5 = .ok (.iconst 0, 1) := by decide +kernel
theorem dX3_giveCarrot_6 : decode cX3_giveCarrot 6 = .ok (.aload_n 0, 1) := by decide +kernel
theorem dX3_giveCarrot_7 : decode cX3_giveCarrot 7 = .ok (.getfield 21, 3) := by decide +kernel
theorem dX3_giveCarrot_10 : decode cX3_giveCarrot 10 = .ok (.iload_n 1, 1) := by decide +kernel
theorem dX3_giveCarrot_11 : decode cX3_giveCarrot 11 = .ok (.iaload, 1) := by decide +kernel
theorem dX3_giveCarrot_12 : decode cX3_giveCarrot 12 = .ok (.bipush 10, 2) := by decide +kernel
theorem dX3_giveCarrot_14 : decode cX3_giveCarrot 14 = .ok (.isub, 1) := by decide +kernel
theorem dX3_giveCarrot_15 : decode cX3_giveCarrot 15 = .ok (.invokestatic 84, 3) := by decide +kernel
theorem dX3_giveCarrot_18 : decode cX3_giveCarrot 18 = .ok (.iastore, 1) := by decide +kernel
theorem dX3_giveCarrot_19 : decode cX3_giveCarrot 19 = .ok (.aload_n 0, 1) := by decide +kernel
theorem dX3_giveCarrot_20 : decode cX3_giveCarrot 20 = .ok (.getfield 21, 3) := by decide +kernel
theorem dX3_giveCarrot_23 : decode cX3_giveCarrot 23 = .ok (.iload_n 1, 1) := by decide +kernel
theorem dX3_giveCarrot_24 : decode cX3_giveCarrot 24 = .ok (.iaload, 1) := by decide +kernel
theorem dX3_giveCarrot_25 : decode cX3_giveCarrot 25 = .ok (.ireturn, 1) := by decide +kernel
set_option maxRecDepth 20000 in
theorem ggX3_passMinutes_X3_passMinute : GoodIn wsX3_passMinutes wsX3_passMinute := goodIn_r _ [5, 6, 7, 8, 9, 10, 11, 12, 13, 14, 15, 16, 17, 18, 19, 20, 21, 4, 22, 23, 24, 25, 26, 27, 28, 29, 30, 31, 32, 33, 34, 35, 36, 37, 38, 39, 40, 41, 42, 43, 44, 45, 46, 47, 48, 49, 50, 51, 52, 53, 54, 55, 56, 57, 58, 59, 60, 61, 62, 63, 64, 65, 66, 67, 68, 69, 70, 71, 72, 73, 74, 75, 76, 77, 78, 79, 80] (by decide +kernel) (by decide +kernel)
set_option maxRecDepth 20000 in
theorem gX3_passMinutes_X3_passMinute : GoodIn wsX3_passMinutes (wsV RX3 89 RX3 yX3_passMinute wsX3_passMinute) := goodIn_app (goodIn_of _ (by decide +kernel)) ggX3_passMinutes_X3_passMinute
theorem dX3_passMinutes_0 : decode cX3_passMinutes 0 = .ok (.iconst 0, 1) := by decide +kernel
theorem dX3_passMinutes_1 : decode cX3_passMinutes 1 = .ok (.istore_n 2, 1) := by decide +kernel
theorem dX3_passMinutes_2 : decode cX3_passMinutes 2 = .ok (.iconst 0, 1) := by decide +kernel
theorem dX3_passMinutes_3 : decode cX3_passMinutes 3 = .ok (.istore_n 3, 1) := by decide +kernel
theorem dX3_passMinutes_4 : decode cX3_passMinutes 4 = .ok (.iload_n 3, 1) := by decide +kernel
theorem dX3_passMinutes_5 : decode cX3_passMinutes 5 = .ok (.iload_n 1, 1) := by decide +kernel
theorem dX3_passMinutes_6 : decode cX3_passMinutes 6 = .ok (.if_icmp .ge 16, 3) := by decide +kernel
theorem dX3_passMinutes_9 : decode cX3_passMinutes 9 = .ok (.iload_n 2, 1) := by decide +kernel
theorem dX3_passMinutes_10 : decode cX3_passMinutes 10 = .ok (.aload_n 0, 1) := by decide +kernel
theorem dX3_passMinutes_11 : decode cX3_passMinutes 11 = .ok (.invokevirtual 89, 3) := by decide +kernel
theorem dX3_passMinutes_14 : decode cX3_passMinutes 14 = .ok (.iadd, 1) := by decide +kernel
theorem dX3_passMinutes_15 : decode cX3_passMinutes 15 = .ok (.istore_n 2, 1) := by decide +kernel
theorem dX3_passMinutes_16 : decode cX3_passMinutes 16 = .ok (.iinc 3 1, 3) := by decide +kernel
theorem dX3_passMinutes_19 : decode cX3_passMinutes 19 = .ok (.goto (-15), 3) := by decide +kernel
theorem dX3_passMinutes_22 : decode cX3_passMinutes 22 = .ok (.iload_n 2, 1) := by decide +kernel
theorem dX3_passMinutes_23 : decode cX3_passMinutes 23 = .ok (.ireturn, 1) := by decide +kernel
set_option maxRecDepth 20000 in
theorem ggX3_passMinute_X3_biters : GoodIn wsX3_passMinute wsX3_biters := goodIn_r _ [18, 1, 19, 20, 21, 22, 17, 23, 24, 25, 26, 27, 28, 29, 30, 31, 32, 33, 34, 35, 36, 37, 38, 39, 40, 41, 42, 3, 43, 2, 11, 44, 45, 46, 47, 5, 6, 7, 67, 68, 69, 70, 71, 72, 73, 74, 75, 76] (by decide +kernel) (by decide +kernel)
set_option maxRecDepth 20000 in
theorem gX3_passMinute_X3_biters : GoodIn wsX3_passMinute (wsV RX3 92 RX3 yX3_biters wsX3_biters) := goodIn_app (goodIn_of _ (by decide +kernel)) ggX3_passMinute_X3_biters
set_option maxRecDepth 20000 in
theorem ggX3_passMinute_X3_timesBitten : GoodIn wsX3_passMinute wsX3_timesBitten := goodIn_r _ [51, 1, 52, 53, 54, 17, 55, 19, 27, 28, 29, 56, 57, 58, 59, 30, 31, 32, 67, 68, 69, 70, 71, 72, 73, 74, 75, 76] (by decide +kernel) (by decide +kernel)
set_option maxRecDepth 20000 in
theorem gX3_passMinute_X3_timesBitten : GoodIn wsX3_passMinute (wsV RX3 95 RX3 yX3_timesBitten wsX3_timesBitten) := goodIn_app (goodIn_of _ (by decide +kernel)) ggX3_passMinute_X3_timesBitten
set_option maxRecDepth 20000 in
theorem ggX3_passMinute_J6_bitCount_0f7a4 : GoodIn wsX3_passMinute wsJ6_bitCount_0f7a4 := goodIn_r _ [63, 64, 65, 66] (by decide +kernel) (by decide +kernel)
set_option maxRecDepth 20000 in
theorem gX3_passMinute_J6_bitCount_0f7a4 : GoodIn wsX3_passMinute (va_wsS RX3 101 yJ6_bitCount_0f7a4 wsJ6_bitCount_0f7a4) := goodIn_app (goodIn_of _ (by decide +kernel)) ggX3_passMinute_J6_bitCount_0f7a4
theorem dX3_passMinute_0 : decode cX3_passMinute 0 = .ok (.aload_n 0, 1) := by decide +kernel
theorem dX3_passMinute_1 : decode cX3_passMinute 1 = .ok (.invokevirtual 92, 3) := by decide +kernel
theorem dX3_passMinute_4 : decode cX3_passMinute 4 = .ok (.istore_n 1, 1) := by decide +kernel
theorem dX3_passMinute_5 : decode cX3_passMinute 5 = .ok (.iconst 0, 1) := by decide +kernel
theorem dX3_passMinute_6 : decode cX3_passMinute 6 = .ok (.istore_n 2, 1) := by decide +kernel
theorem dX3_passMinute_7 : decode cX3_passMinute 7 = .ok (.iload_n 2, 1) := by decide +kernel
theorem dX3_passMinute_8 : decode cX3_passMinute 8 = .ok (.aload_n 0, 1) := by decide +kernel
theorem dX3_passMinute_9 : decode cX3_passMinute 9 = .ok (.getfield 40, 3) := by decide +kernel
theorem dX3_passMinute_12 : decode cX3_passMinute 12 = .ok (.if_icmp .ge 71, 3) := by decide +kernel
theorem dX3_passMinute_15 : decode cX3_passMinute 15 = .ok (.aload_n 0, 1) := by decide +kernel
theorem dX3_passMinute_16 : decode cX3_passMinute 16 = .ok (.getfield 24, 3) := by decide +kernel
theorem dX3_passMinute_19 : decode cX3_passMinute 19 = .ok (.iload_n 2, 1) := by decide +kernel
theorem dX3_passMinute_20 : decode cX3_passMinute 20 = .ok (.dup2, 1) := by decide +kernel
theorem dX3_passMinute_21 : decode cX3_passMinute 21 = .ok (.iaload, 1) := by decide +kernel
theorem dX3_passMinute_22 : decode cX3_passMinute 22 = .ok (.aload_n 0, 1) := by decide +kernel
theorem dX3_passMinute_23 : decode cX3_passMinute 23 = .ok (.iload_n 2, 1) := by decide +kernel
theorem dX3_passMinute_24 : decode cX3_passMinute 24 = .ok (.iload_n 1, 1) := by decide +kernel
theorem dX3_passMinute_25 : decode cX3_passMinute 25 = .ok (.invokevirtual 95, 3) := by decide +kernel
theorem dX3_passMinute_28 : decode cX3_passMinute 28 = .ok (.iadd, 1) := by decide +kernel
theorem dX3_passMinute_29 : decode cX3_passMinute 29 = .ok (.iastore, 1) := by decide +kernel
theorem dX3_passMinute_30 : decode cX3_passMinute 30 = .ok (.iload_n 1, 1) := by decide +kernel
theorem dX3_passMinute_31 : decode cX3_passMinute 31 = .ok (.iload_n 2, 1) := by decide +kernel
theorem dX3_passMinute_32 : decode cX3_passMinute 32 = .ok (.ishr, 1) := by decide +kernel
theorem dX3_passMinute_33 : decode cX3_passMinute 33 = .ok (.iconst 1, 1) := by decide +kernel
theorem dX3_passMinute_34 : decode cX3_passMinute 34 = .ok (.iand, 1) := by decide +kernel
theorem dX3_passMinute_35 : decode cX3_passMinute 35 = .ok (.iconst 1, 1) := by decide +kernel
theorem dX3_passMinute_36 : decode cX3_passMinute 36 = .ok (.if_icmp .ne 22, 3) := by decide +kernel
theorem dX3_passMinute_39 : decode cX3_passMinute 39 = .ok (.aload_n 0, 1) := by decide +kernel
theorem dX3_passMinute_40 : decode cX3_passMinute 40 = .ok (.getfield 21, 3) := by decide +kernel
theorem dX3_passMinute_43 : decode cX3_passMinute 43 = .ok (.iload_n 2, 1) := by decide +kernel
theorem dX3_passMinute_44 : decode cX3_passMinute 44 = .ok (.iconst 0, 1) := by decide +kernel
theorem dX3_passMinute_45 : decode cX3_passMinute 45 = .ok (.aload_n 0, 1) := by decide +kernel
theorem dX3_passMinute_46 : decode cX3_passMinute 46 = .ok (.getfield 21, 3) := by decide +kernel
theorem dX3_passMinute_49 : decode cX3_passMinute 49 = .ok (.iload_n 2, 1) := by decide +kernel
theorem dX3_passMinute_50 : decode cX3_passMinute 50 = .ok (.iaload, 1) := by decide +kernel
theorem dX3_passMinute_51 : decode cX3_passMinute 51 = .ok (.bipush 8, 2) := by decide +kernel
theorem dX3_passMinute_53 : decode cX3_passMinute 53 = .ok (.isub, 1) := by decide +kernel
theorem dX3_passMinute_54 : decode cX3_passMinute 54 = .ok (.invokestatic 84, 3) := by decide +kernel
theorem dX3_passMinute_57 : decode cX3_passMinute 57 = .ok (.iastore, 1) := by decide +kernel
theorem dX3_passMinute_58 : decode cX3_passMinute 58 = .ok (.aload_n 0, 1) := by decide +kernel
theorem dX3_passMinute_59 : decode cX3_passMinute 59 = .ok (.getfield 21, 3) := by decide +kernel
theorem dX3_passMinute_62 : decode cX3_passMinute 62 = .ok (.iload_n 2, 1) := by decide +kernel
theorem dX3_passMinute_63 : decode cX3_passMinute 63 = .ok (.bipush 30, 2) := by decide +kernel
theorem dX3_passMinute_65 : decode cX3_passMinute 65 = .ok (.aload_n 0, 1) := by decide +kernel
theorem dX3_passMinute_66 : decode cX3_passMinute 66 = .ok (.getfield 21, 3) := by decide +kernel
theorem dX3_passMinute_69 : decode cX3_passMinute 69 = .ok (.iload_n 2, 1) := by decide +kernel
theorem dX3_passMinute_70 : decode cX3_passMinute 70 = .ok (.iaload, 1) := by decide +kernel
theorem dX3_passMinute_71 : decode cX3_passMinute 71 = .ok (.iconst 1, 1) := by decide +kernel
theorem dX3_passMinute_72 : decode cX3_passMinute 72 = .ok (.iadd, 1) := by decide +kernel
theorem dX3_passMinute_73 : decode cX3_passMinute 73 = .ok (.invokestatic 98, 3) := by decide +kernel
theorem dX3_passMinute_76 : decode cX3_passMinute 76 = .ok (.iastore, 1) := by decide +kernel
theorem dX3_passMinute_77 : decode cX3_passMinute 77 = .ok (.iinc 2 1, 3) := by decide +kernel
theorem dX3_passMinute_80 : decode cX3_passMinute 80 = .ok (.goto (-73), 3) := by decide +kernel
theorem dX3_passMinute_83 : decode cX3_passMinute 83 = .ok (.aload_n 0, 1) := by decide +kernel
theorem dX3_passMinute_84 : decode cX3_passMinute 84 = .ok (.iload_n 1, 1) := by decide +kernel
theorem dX3_passMinute_85 : decode cX3_passMinute 85 = .ok (.invokestatic 101, 3) := by decide +kernel
theorem dX3_passMinute_88 : decode cX3_passMinute 88 = .ok (.putfield 37, 3) := by decide +kernel
theorem dX3_passMinute_91 : decode cX3_passMinute 91 = .ok (.aload_n 0, 1) := by decide +kernel
theorem dX3_passMinute_92 : decode cX3_passMinute 92 = .ok (.dup, 1) := by decide +kernel
theorem dX3_passMinute_93 : decode cX3_passMinute 93 = .ok (.getfield 34, 3) := by decide +kernel
theorem dX3_passMinute_96 : decode cX3_passMinute 96 = .ok (.aload_n 0, 1) := by decide +kernel
theorem dX3_passMinute_97 : decode cX3_passMinute 97 = .ok (.getfield 37, 3) := by decide +kernel
theorem dX3_passMinute_100 : decode cX3_passMinute 100 = .ok (.iadd, 1) := by decide +kernel
theorem dX3_passMinute_101 : decode cX3_passMinute 101 = .ok (.putfield 34, 3) := by decide +kernel
theorem dX3_passMinute_104 : decode cX3_passMinute 104 = .ok (.aload_n 0, 1) := by decide +kernel
theorem dX3_passMinute_105 : decode cX3_passMinute 105 = .ok (.dup, 1) := by decide +kernel
theorem dX3_passMinute_106 : decode cX3_passMinute 106 = .ok (.getfield 31, 3) := by decide +kernel
theorem dX3_passMinute_109 : decode cX3_passMinute 109 = .ok (.iconst 1, 1) := by decide +kernel
theorem dX3_passMinute_110 : decode cX3_passMinute 110 = .ok (.iadd, 1) := by decide +kernel
theorem dX3_passMinute_111 : decode cX3_passMinute 111 = .ok (.putfield 31, 3) := by decide +kernel
theorem dX3_passMinute_114 : decode cX3_passMinute 114 = .ok (.aload_n 0, 1) := by decide +kernel
theorem dX3_passMinute_115 : decode cX3_passMinute 115 = .ok (.getfield 37, 3) := by decide +kernel
theorem dX3_passMinute_118 : decode cX3_passMinute 118 = .ok (.ireturn, 1) := by decide +kernel
theorem dX4_init_0 : decode cX4_init 0 = .ok (.aload_n 0, 1) := by decide +kernel
theorem dX4_init_1 : decode cX4_init 1 = .ok (.invokespecial 3, 3) := by decide +kernel
theorem dX4_init_4 : decode cX4_init 4 = .ok (.aload_n 0, 1) := by decide +kernel
theorem dX4_init_5 : decode cX4_init 5 = .ok (.sipush 150, 3) := by decide +kernel
theorem dX4_init_8 : decode cX4_init 8 = .ok (.newarray .byte, 2) := by decide +kernel
theorem dX4_init_10 : decode cX4_init 10 = .ok (.putfield 9, 3) := by decide +kernel
theorem dX4_init_13 : decode cX4_init 13 = .ok (.return_, 1) := by decide +kernel
theorem dX4_append_0 : decode cX4_append 0 = .ok (.aload_n 0, 1) := by decide +kernel
theorem dX4_append_1 : decode cX4_append 1 = .ok (.getfield 15, 3) := by decide +kernel
theorem dX4_append_4 : decode cX4_append 4 = .ok (.sipush 150, 3) := by decide +kernel
theorem dX4_append_7 : decode cX4_append 7 = .ok (.if_icmp .ge 24, 3) := by decide +kernel
theorem dX4_append_10 : decode cX4_append 10 = .ok (.aload_n 0, 1) := by decide +kernel
theorem dX4_append_11 : decode cX4_append 11 = .ok (.getfield 9, 3) := by decide +kernel
theorem dX4_append_14 : decode cX4_append 14 = .ok (.aload_n 0, 1) := by decide +kernel
theorem dX4_append_15 : decode cX4_append 15 = .ok (.getfield 15, 3) := by decide +kernel
theorem dX4_append_18 : decode cX4_append 18 = .ok (.iload_n 1, 1) := by decide +kernel
theorem dX4_append_19 : decode cX4_append 19 = .ok (.i2b, 1) := by decide +kernel
theorem dX4_append_20 : decode cX4_append 20 = .ok (.bastore, 1) := by decide +kernel
theorem dX4_append_21 : decode cX4_append 21 = .ok (.aload_n 0, 1) := by decide +kernel
theorem dX4_append_22 : decode cX4_append 22 = .ok (.dup, 1) := by decide +kernel
theorem dX4_append_23 : decode cX4_append 23 = .ok (.getfield 15, 3) := by decide +kernel
theorem dX4_append_26 : decode cX4_append 26 = .ok (.iconst 1, 1) := by decide +kernel
theorem dX4_append_27 : decode cX4_append 27 = .ok (.iadd, 1) := by decide +kernel
theorem dX4_append_28 : decode cX4_append 28 = .ok (.putfield 15, 3) := by decide +kernel
theorem dX4_append_31 : decode cX4_append 31 = .ok (.aload_n 0, 1) := by decide +kernel
theorem dX4_append_32 : decode cX4_append 32 = .ok (.getfield 15, 3) := by decide +kernel
theorem dX4_append_35 : decode cX4_append 35 = .ok (.ireturn, 1) := by decide +kernel
set_option maxRecDepth 20000 in
theorem ggX4_readInto_X3_layAnew : GoodIn wsX4_readInto wsX3_layAnew := goodIn_r _ [7, 8, 9, 10, 11, 12, 132, 133, 134, 135, 136, 137, 138, 139, 140, 141] (by decide +kernel) (by decide +kernel)
set_option maxRecDepth 20000 in
theorem gX4_readInto_X3_layAnew_n19 : GoodIn wsX4_readInto (wsX3_layAnew) := ggX4_readInto_X3_layAnew
set_option maxRecDepth 20000 in
theorem ggX4_readInto_X4_nextToken : GoodIn wsX4_readInto wsX4_nextToken := goodIn_r _ [17, 1, 18, 19, 3, 2, 20, 21, 16, 22, 23, 24, 25, 26, 27, 28, 29, 30, 31, 32, 33, 34, 35, 36, 37, 38, 39, 40, 41, 42, 43, 44, 45, 46, 47, 48, 49, 50, 51, 52, 53, 54, 55, 56, 57, 58, 59, 60, 61, 62, 63, 64, 65, 66, 67, 68, 69, 70, 71, 72, 73, 74, 75, 76, 77, 78, 79, 80, 81, 82, 83, 84, 85, 86, 87, 126, 127, 128, 129, 130, 131] (by decide +kernel) (by decide +kernel)
set_option maxRecDepth 20000 in
theorem gX4_readInto_X4_nextToken : GoodIn wsX4_readInto (wsV RX4 28 RX4 yX4_nextToken wsX4_nextToken) := goodIn_app (goodIn_of _ (by decide +kernel)) ggX4_readInto_X4_nextToken
set_option maxRecDepth 20000 in
theorem ggX4_readInto_X4_readWoman : GoodIn wsX4_readInto wsX4_readWoman := goodIn_r _ [91, 87, 92, 93, 94, 16, 95, 2, 13, 14, 15, 17, 1, 18, 19, 3, 20, 21, 22, 23, 24, 25, 26, 27, 28, 29, 30, 31, 32, 33, 34, 35, 36, 37, 38, 39, 40, 41, 42, 43, 44, 45, 46, 47, 48, 49, 50, 51, 52, 53, 54, 55, 56, 57, 58, 59, 60, 61, 62, 63, 64, 65, 66, 67, 68, 69, 70, 71, 72, 73, 74, 75, 76, 77, 78, 79, 80, 81, 82, 83, 84, 85, 86, 96, 97, 98, 99, 126, 127, 128, 129, 130, 131, 132, 133, 134, 135, 136, 137, 138, 139, 140, 141] (by decide +kernel) (by decide +kernel)
set_option maxRecDepth 20000 in
theorem gX4_readInto_X4_readWoman : GoodIn wsX4_readInto (wsV RX4 34 RX4 yX4_readWoman wsX4_readWoman) := goodIn_app (goodIn_of _ (by decide +kernel)) ggX4_readInto_X4_readWoman
set_option maxRecDepth 20000 in
theorem ggX4_readInto_X4_readChild : GoodIn wsX4_readInto wsX4_readChild := goodIn_r _ [103, 87, 92, 93, 94, 16, 95, 2, 13, 14, 15, 17, 1, 18, 19, 3, 20, 21, 22, 23, 24, 25, 26, 27, 28, 29, 30, 31, 32, 33, 34, 35, 36, 37, 38, 39, 40, 41, 42, 43, 44, 45, 46, 47, 48, 49, 50, 51, 52, 53, 54, 55, 56, 57, 58, 59, 60, 61, 62, 63, 64, 65, 66, 67, 68, 69, 70, 71, 72, 73, 74, 75, 76, 77, 78, 79, 80, 81, 82, 83, 84, 85, 86, 104, 5, 105, 106, 12, 107, 108, 109, 110, 111, 112, 113, 114, 96, 97, 98, 99, 132, 133, 134, 135, 136, 137, 138, 139, 140, 141, 126, 127, 128, 129, 130, 131] (by decide +kernel) (by decide +kernel)
set_option maxRecDepth 20000 in
theorem gX4_readInto_X4_readChild : GoodIn wsX4_readInto (wsV RX4 38 RX4 yX4_readChild wsX4_readChild) := goodIn_app (goodIn_of _ (by decide +kernel)) ggX4_readInto_X4_readChild
set_option maxRecDepth 20000 in
theorem ggX4_readInto_X4_readCarrot : GoodIn wsX4_readInto wsX4_readCarrot := goodIn_r _ [118, 87, 92, 93, 94, 16, 95, 2, 13, 14, 15, 17, 1, 18, 19, 3, 20, 21, 22, 23, 24, 25, 26, 27, 28, 29, 30, 31, 32, 33, 34, 35, 36, 37, 38, 39, 40, 41, 42, 43, 44, 45, 46, 47, 48, 49, 50, 51, 52, 53, 54, 55, 56, 57, 58, 59, 60, 61, 62, 63, 64, 65, 66, 67, 68, 69, 70, 71, 72, 73, 74, 75, 76, 77, 78, 79, 80, 81, 82, 83, 84, 85, 86, 119, 5, 120, 121, 113, 122, 123, 124, 125, 96, 97, 98, 99, 132, 133, 134, 135, 136, 137, 138, 139, 140, 141, 126, 127, 128, 129, 130, 131] (by decide +kernel) (by decide +kernel)
set_option maxRecDepth 20000 in
theorem gX4_readInto_X4_readCarrot : GoodIn wsX4_readInto (wsV RX4 41 RX4 yX4_readCarrot wsX4_readCarrot) := goodIn_app (goodIn_of _ (by decide +kernel)) ggX4_readInto_X4_readCarrot
theorem dX4_readInto_0 : decode cX4_readInto 0 = .ok (.aload_n 1, 1) := by decide +kernel
theorem dX4_readInto_1 : decode cX4_readInto 1 = .ok (.iconst 0, 1) := by decide +kernel
theorem dX4_readInto_2 : decode cX4_readInto 2 = .ok (.invokevirtual 19, 3) := by decide +kernel
theorem dX4_readInto_5 : decode cX4_readInto 5 = .ok (.aload_n 0, 1) := by decide +kernel
theorem dX4_readInto_6 : decode cX4_readInto 6 = .ok (.iconst 0, 1) := by decide +kernel
theorem dX4_readInto_7 : decode cX4_readInto 7 = .ok (.putfield 25, 3) := by decide +kernel
theorem dX4_readInto_10 : decode cX4_readInto 10 = .ok (.iconst 0, 1) := by decide +kernel
theorem dX4_readInto_11 : decode cX4_readInto 11 = .ok (.istore_n 2, 1) := by decide +kernel
theorem dX4_readInto_12 : decode cX4_readInto 12 = .ok (.aload_n 0, 1) := by decide +kernel
theorem dX4_readInto_13 : decode cX4_readInto 13 = .ok (.invokevirtual 28, 3) := by decide +kernel
theorem dX4_readInto_16 : decode cX4_readInto 16 = .ok (.aload_n 0, 1) := by decide +kernel
theorem dX4_readInto_17 : decode cX4_readInto 17 = .ok (.getfield 31, 3) := by decide +kernel
theorem dX4_readInto_20 : decode cX4_readInto 20 = .ok (.iconst 3, 1) := by decide +kernel
theorem dX4_readInto_21 : decode cX4_readInto 21 = .ok (.if_icmp .ne 15, 3) := by decide +kernel
theorem dX4_readInto_24 : decode cX4_readInto 24 = .ok (.aload_n 0, 1) := by decide +kernel
theorem dX4_readInto_25 : decode cX4_readInto 25 = .ok (.aload_n 1, 1) := by decide +kernel
theorem dX4_readInto_26 : decode cX4_readInto 26 = .ok (.invokevirtual 34, 3) := by decide +kernel
theorem dX4_readInto_29 : decode cX4_readInto 29 = .ok (.ifCond .eq 7, 3) := by decide +kernel
theorem dX4_readInto_32 : decode cX4_readInto 32 = .ok (.iconst 1, 1) := by decide +kernel
theorem dX4_readInto_33 : decode cX4_readInto 33 = .ok (.goto 4, 3) := by decide +kernel
theorem dX4_readInto_36 : decode cX4_readInto 36 = .ok (.iconst 0, 1) := by decide +kernel
theorem dX4_readInto_37 : decode cX4_readInto 37 = .ok (.istore_n 3, 1) := by decide +kernel
theorem dX4_readInto_38 : decode cX4_readInto 38 = .ok (.iload_n 3, 1) := by decide +kernel
theorem dX4_readInto_39 : decode cX4_readInto 39 = .ok (.ifCond .eq 72, 3) := by decide +kernel
theorem dX4_readInto_42 : decode cX4_readInto 42 = .ok (.aload_n 0, 1) := by decide +kernel
theorem dX4_readInto_43 : decode cX4_readInto 43 = .ok (.getfield 31, 3) := by decide +kernel
theorem dX4_readInto_46 : decode cX4_readInto 46 = .ok (.ifCond .eq 65, 3) := by decide +kernel
theorem dX4_readInto_49 : decode cX4_readInto 49 = .ok (.iload_n 2, 1) := by decide +kernel
theorem dX4_readInto_50 : decode cX4_readInto 50 = .ok (.sipush 150, 3) := by decide +kernel
theorem dX4_readInto_53 : decode cX4_readInto 53 = .ok (.if_icmp .ge 58, 3) := by decide +kernel
theorem dX4_readInto_56 : decode cX4_readInto 56 = .ok (.iinc 2 1, 3) := by decide +kernel
theorem dX4_readInto_59 : decode cX4_readInto 59 = .ok (.aload_n 0, 1) := by decide +kernel
theorem dX4_readInto_60 : decode cX4_readInto 60 = .ok (.invokevirtual 28, 3) := by decide +kernel
theorem dX4_readInto_63 : decode cX4_readInto 63 = .ok (.aload_n 0, 1) := by decide +kernel
theorem dX4_readInto_64 : decode cX4_readInto 64 = .ok (.getfield 31, 3) := by decide +kernel
theorem dX4_readInto_67 : decode cX4_readInto 67 = .ok (.iconst 4, 1) := by decide +kernel
theorem dX4_readInto_68 : decode cX4_readInto 68 = .ok (.if_icmp .ne 11, 3) := by decide +kernel
theorem dX4_readInto_71 : decode cX4_readInto 71 = .ok (.aload_n 0, 1) := by decide +kernel
theorem dX4_readInto_72 : decode cX4_readInto 72 = .ok (.aload_n 1, 1) := by decide +kernel
theorem dX4_readInto_73 : decode cX4_readInto 73 = .ok (.invokevirtual 38, 3) := by decide +kernel
theorem dX4_readInto_76 : decode cX4_readInto 76 = .ok (.goto 31, 3) := by decide +kernel
theorem dX4_readInto_79 : decode cX4_readInto 79 = .ok (.aload_n 0, 1) := by decide +kernel
theorem dX4_readInto_80 : decode cX4_readInto 80 = .ok (.getfield 31, 3) := by decide +kernel
theorem dX4_readInto_83 : decode cX4_readInto 83 = .ok (.iconst 5, 1) := by decide +kernel
theorem dX4_readInto_84 : decode cX4_readInto 84 = .ok (.if_icmp .ne 11, 3) := by decide +kernel
theorem dX4_readInto_87 : decode cX4_readInto 87 = .ok (.aload_n 0, 1) := by decide +kernel
theorem dX4_readInto_88 : decode cX4_readInto 88 = .ok (.aload_n 1, 1) := by decide +kernel
theorem dX4_readInto_89 : decode cX4_readInto 89 = .ok (.invokevirtual 41, 3) := by decide +kernel
theorem dX4_readInto_92 : decode cX4_readInto 92 = .ok (.goto 15, 3) := by decide +kernel
theorem dX4_readInto_95 : decode cX4_readInto 95 = .ok (.aload_n 0, 1) := by decide +kernel
theorem dX4_readInto_96 : decode cX4_readInto 96 = .ok (.getfield 31, 3) := by decide +kernel
theorem dX4_readInto_99 : decode cX4_readInto 99 = .ok (.ifCond .ne 7, 3) := by decide +kernel
theorem dX4_readInto_102 : decode cX4_readInto 102 = .ok (.iconst 1, 1) := by decide +kernel
theorem dX4_readInto_103 : decode cX4_readInto 103 = .ok (.goto 4, 3) := by decide +kernel
theorem dX4_readInto_106 : decode cX4_readInto 106 = .ok (.iconst 0, 1) := by decide +kernel
theorem dX4_readInto_107 : decode cX4_readInto 107 = .ok (.istore_n 3, 1) := by decide +kernel
theorem dX4_readInto_108 : decode cX4_readInto 108 = .ok (.goto (-70), 3) := by decide +kernel
theorem dX4_readInto_111 : decode cX4_readInto 111 = .ok (.iload_n 3, 1) := by decide +kernel
theorem dX4_readInto_112 : decode cX4_readInto 112 = .ok (.ifCond .eq 7, 3) := by decide +kernel
theorem dX4_readInto_115 : decode cX4_readInto 115 = .ok (.iload_n 2, 1) := by decide +kernel
theorem dX4_readInto_116 : decode cX4_readInto 116 = .ok (.goto 10, 3) := by decide +kernel
theorem dX4_readInto_119 : decode cX4_readInto 119 = .ok (.bipush (-10), 2) := by decide +kernel
theorem dX4_readInto_121 : decode cX4_readInto 121 = .ok (.aload_n 0, 1) := by decide +kernel
theorem dX4_readInto_122 : decode cX4_readInto 122 = .ok (.getfield 44, 3) := by decide +kernel
theorem dX4_readInto_125 : decode cX4_readInto 125 = .ok (.isub, 1) := by decide +kernel
theorem dX4_readInto_126 : decode cX4_readInto 126 = .ok (.ireturn, 1) := by decide +kernel
set_option maxRecDepth 20000 in
theorem ggX4_readWoman_X4_nextNumber : GoodIn wsX4_readWoman wsX4_nextNumber := goodIn_r _ [6, 7, 1, 8, 9, 10, 5, 11, 12, 13, 14, 15, 16, 17, 18, 19, 20, 21, 22, 23, 24, 25, 26, 27, 28, 29, 30, 31, 32, 33, 34, 35, 36, 37, 38, 39, 40, 41, 42, 43, 44, 45, 46, 47, 48, 49, 50, 51, 52, 53, 54, 55, 56, 57, 58, 59, 60, 61, 62, 63, 64, 65, 66, 67, 68, 69, 70, 71, 72, 73, 74, 75, 76, 77, 78, 79, 80, 81, 82, 87, 88, 89, 90, 91, 92] (by decide +kernel) (by decide +kernel)
set_option maxRecDepth 20000 in
theorem gX4_readWoman_X4_nextNumber : GoodIn wsX4_readWoman (wsV RX4 47 RX4 yX4_nextNumber wsX4_nextNumber) := goodIn_app (goodIn_of _ (by decide +kernel)) ggX4_readWoman_X4_nextNumber
set_option maxRecDepth 20000 in
theorem ggX4_readWoman_X4_nextMark : GoodIn wsX4_readWoman wsX4_nextMark := goodIn_r _ [86, 7, 8, 9, 10, 5, 11, 12, 13, 14, 15, 16, 17, 18, 19, 20, 21, 22, 23, 24, 25, 26, 27, 28, 29, 30, 31, 32, 33, 34, 35, 36, 37, 38, 39, 40, 41, 42, 43, 44, 45, 46, 47, 48, 49, 50, 51, 52, 53, 54, 55, 56, 57, 58, 59, 60, 61, 62, 63, 64, 65, 66, 67, 68, 69, 70, 71, 72, 73, 74, 75, 76, 77, 78, 79, 80, 81, 82, 1, 87, 88, 89, 90, 91, 92] (by decide +kernel) (by decide +kernel)
set_option maxRecDepth 20000 in
theorem gX4_readWoman_X4_nextMark : GoodIn wsX4_readWoman (wsV RX4 57 RX4 yX4_nextMark wsX4_nextMark) := goodIn_app (goodIn_of _ (by decide +kernel)) ggX4_readWoman_X4_nextMark
theorem dX4_readWoman_0 : decode cX4_readWoman 0 = .ok (.aload_n 0, 1) := by decide +kernel
theorem dX4_readWoman_1 : decode cX4_readWoman 1 = .ok (.bipush 7, 2) := by decide +kernel
theorem dX4_readWoman_3 : decode cX4_readWoman 3 = .ok (.invokevirtual 47, 3) := by decide +kernel
theorem dX4_readWoman_6 : decode cX4_readWoman 6 = .ok (.ifCond .ne 5, 3) := by decide +kernel
theorem dX4_readWoman_9 : decode cX4_readWoman 9 = .ok (.iconst 0, 1) := by decide +kernel
theorem dX4_readWoman_10 : decode cX4_readWoman 10 = .ok (.ireturn, 1) := by decide +kernel
theorem dX4_readWoman_11 : decode cX4_readWoman 11 = .ok (.aload_n 1, 1) := by decide +kernel
theorem dX4_readWoman_12 : decode cX4_readWoman 12 = .ok (.aload_n 0, 1) := by decide +kernel
theorem dX4_readWoman_13 : decode cX4_readWoman 13 = .ok (.getfield 51, 3) := by decide +kernel
theorem dX4_readWoman_16 : decode cX4_readWoman 16 = .ok (.putfield 54, 3) := by decide +kernel
theorem dX4_readWoman_19 : decode cX4_readWoman 19 = .ok (.aload_n 0, 1) := by decide +kernel
theorem dX4_readWoman_20 : decode cX4_readWoman 20 = .ok (.invokevirtual 57, 3) := by decide +kernel
theorem dX4_readWoman_23 : decode cX4_readWoman 23 = .ok (.ireturn, 1) := by decide +kernel
set_option maxRecDepth 20000 in
theorem ggX4_readChild_X4_nextNumber : GoodIn wsX4_readChild wsX4_nextNumber := goodIn_r _ [6, 7, 1, 8, 9, 10, 5, 11, 12, 13, 14, 15, 16, 17, 18, 19, 20, 21, 22, 23, 24, 25, 26, 27, 28, 29, 30, 31, 32, 33, 34, 35, 36, 37, 38, 39, 40, 41, 42, 43, 44, 45, 46, 47, 48, 49, 50, 51, 52, 53, 54, 55, 56, 57, 58, 59, 60, 61, 62, 63, 64, 65, 66, 67, 68, 69, 70, 71, 72, 73, 74, 75, 76, 77, 78, 79, 80, 81, 82, 110, 111, 112, 113, 114, 115] (by decide +kernel) (by decide +kernel)
set_option maxRecDepth 20000 in
theorem gX4_readChild_X4_nextNumber : GoodIn wsX4_readChild (wsV RX4 47 RX4 yX4_nextNumber wsX4_nextNumber) := goodIn_app (goodIn_of _ (by decide +kernel)) ggX4_readChild_X4_nextNumber
set_option maxRecDepth 20000 in
theorem ggX4_readChild_X3_childAt : GoodIn wsX4_readChild wsX3_childAt := goodIn_r _ [86, 87, 88, 100, 101, 102, 103, 104, 105, 106, 107, 108, 109] (by decide +kernel) (by decide +kernel)
set_option maxRecDepth 20000 in
theorem gX4_readChild_X3_childAt_n64 : GoodIn wsX4_readChild (wsX3_childAt) := ggX4_readChild_X3_childAt
set_option maxRecDepth 20000 in
theorem ggX4_readChild_X3_addChild : GoodIn wsX4_readChild wsX3_addChild := goodIn_r _ [91, 87, 92, 88, 93, 94, 95, 100, 101, 102, 103, 104, 105, 106, 107, 108, 109] (by decide +kernel) (by decide +kernel)
set_option maxRecDepth 20000 in
theorem gX4_readChild_X3_addChild_n68 : GoodIn wsX4_readChild (wsX3_addChild) := ggX4_readChild_X3_addChild
set_option maxRecDepth 20000 in
theorem ggX4_readChild_X4_nextMark : GoodIn wsX4_readChild wsX4_nextMark := goodIn_r _ [99, 7, 8, 9, 10, 5, 11, 12, 13, 14, 15, 16, 17, 18, 19, 20, 21, 22, 23, 24, 25, 26, 27, 28, 29, 30, 31, 32, 33, 34, 35, 36, 37, 38, 39, 40, 41, 42, 43, 44, 45, 46, 47, 48, 49, 50, 51, 52, 53, 54, 55, 56, 57, 58, 59, 60, 61, 62, 63, 64, 65, 66, 67, 68, 69, 70, 71, 72, 73, 74, 75, 76, 77, 78, 79, 80, 81, 82, 1, 110, 111, 112, 113, 114, 115] (by decide +kernel) (by decide +kernel)
set_option maxRecDepth 20000 in
theorem gX4_readChild_X4_nextMark : GoodIn wsX4_readChild (wsV RX4 57 RX4 yX4_nextMark wsX4_nextMark) := goodIn_app (goodIn_of _ (by decide +kernel)) ggX4_readChild_X4_nextMark
theorem dX4_readChild_0 : decode cX4_readChild 0 = .ok (.aload_n 1, 1) := by decide +kernel
theorem dX4_readChild_1 : decode cX4_readChild 1 = .ok (.getfield 61, 3) := by decide +kernel
theorem dX4_readChild_4 : decode cX4_readChild 4 = .ok (.bipush 6, 2) := by decide +kernel
theorem dX4_readChild_6 : decode cX4_readChild 6 = .ok (.if_icmp .ge 11, 3) := by decide +kernel
theorem dX4_readChild_9 : decode cX4_readChild 9 = .ok (.aload_n 0, 1) := by decide +kernel
theorem dX4_readChild_10 : decode cX4_readChild 10 = .ok (.iconst 5, 1) := by decide +kernel
theorem dX4_readChild_11 : decode cX4_readChild 11 = .ok (.invokevirtual 47, 3) := by decide +kernel
theorem dX4_readChild_14 : decode cX4_readChild 14 = .ok (.ifCond .ne 5, 3) := by decide +kernel
theorem dX4_readChild_17 : decode cX4_readChild 17 = .ok (.iconst 0, 1) := by decide +kernel
theorem dX4_readChild_18 : decode cX4_readChild 18 = .ok (.ireturn, 1) := by decide +kernel
theorem dX4_readChild_19 : decode cX4_readChild 19 = .ok (.aload_n 0, 1) := by decide +kernel
theorem dX4_readChild_20 : decode cX4_readChild 20 = .ok (.getfield 51, 3) := by decide +kernel
theorem dX4_readChild_23 : decode cX4_readChild 23 = .ok (.istore_n 2, 1) := by decide +kernel
theorem dX4_readChild_24 : decode cX4_readChild 24 = .ok (.aload_n 0, 1) := by decide +kernel
theorem dX4_readChild_25 : decode cX4_readChild 25 = .ok (.bipush 7, 2) := by decide +kernel
theorem dX4_readChild_27 : decode cX4_readChild 27 = .ok (.invokevirtual 47, 3) := by decide +kernel
theorem dX4_readChild_30 : decode cX4_readChild 30 = .ok (.ifCond .eq 15, 3) := by decide +kernel
theorem dX4_readChild_33 : decode cX4_readChild 33 = .ok (.aload_n 1, 1) := by decide +kernel
theorem dX4_readChild_34 : decode cX4_readChild 34 = .ok (.aload_n 0, 1) := by decide +kernel
theorem dX4_readChild_35 : decode cX4_readChild 35 = .ok (.getfield 51, 3) := by decide +kernel
theorem dX4_readChild_38 : decode cX4_readChild 38 = .ok (.invokevirtual 64, 3) := by decide +kernel
theorem dX4_readChild_41 : decode cX4_readChild 41 = .ok (.iconst (-1), 1) := by decide +kernel
theorem dX4_readChild_42 : decode cX4_readChild 42 = .ok (.if_icmp .eq 5, 3) := by decide +kernel
theorem dX4_readChild_45 : decode cX4_readChild 45 = .ok (.iconst 0, 1) := by decide +kernel
theorem dX4_readChild_46 : decode cX4_readChild 46 = .ok (.ireturn, 1) := by decide +kernel
theorem dX4_readChild_47 : decode cX4_readChild 47 = .ok (.aload_n 0, 1) := by decide +kernel
theorem dX4_readChild_48 : decode cX4_readChild 48 = .ok (.getfield 51, 3) := by decide +kernel
theorem dX4_readChild_51 : decode cX4_readChild 51 = .ok (.istore_n 3, 1) := by decide +kernel
theorem dX4_readChild_52 : decode cX4_readChild 52 = .ok (.aload_n 0, 1) := by decide +kernel
theorem dX4_readChild_53 : decode cX4_readChild 53 = .ok (.bipush 20, 2) := by decide +kernel
theorem dX4_readChild_55 : decode cX4_readChild 55 = .ok (.invokevirtual 47, 3) := by decide +kernel
theorem dX4_readChild_58 : decode cX4_readChild 58 = .ok (.ifCond .ne 5, 3) := by decide +kernel
theorem dX4_readChild_61 : decode cX4_readChild 61 = .ok (.iconst 0, 1) := by decide +kernel
theorem dX4_readChild_62 : decode cX4_readChild 62 = .ok (.ireturn, 1) := by decide +kernel
theorem dX4_readChild_63 : decode cX4_readChild 63 = .ok (.aload_n 0, 1) := by decide +kernel
theorem dX4_readChild_64 : decode cX4_readChild 64 = .ok (.getfield 51, 3) := by decide +kernel
theorem dX4_readChild_67 : decode cX4_readChild 67 = .ok (.istore 4, 2) := by decide +kernel
theorem dX4_readChild_69 : decode cX4_readChild 69 = .ok (.aload_n 0, 1) := by decide +kernel
theorem dX4_readChild_70 : decode cX4_readChild 70 = .ok (.bipush 30, 2) := by decide +kernel
theorem dX4_readChild_72 : decode cX4_readChild 72 = .ok (.invokevirtual 47, 3) := by decide +kernel
theorem dX4_readChild_75 : decode cX4_readChild 75 = .ok (.ifCond .ne 5, 3) := by decide +kernel
theorem dX4_readChild_78 : decode cX4_readChild 78 = .ok (.iconst 0, 1) := by decide +kernel
theorem dX4_readChild_79 : decode cX4_readChild 79 = .ok (.ireturn, 1) := by decide +kernel
theorem dX4_readChild_80 : decode cX4_readChild 80 = .ok (.aload_n 1, 1) := by decide +kernel
theorem dX4_readChild_81 : decode cX4_readChild 81 = .ok (.iload_n 2, 1) := by decide +kernel
theorem dX4_readChild_82 : decode cX4_readChild 82 = .ok (.iload_n 3, 1) := by decide +kernel
theorem dX4_readChild_83 : decode cX4_readChild 83 = .ok (.iload 4, 2) := by decide +kernel
theorem dX4_readChild_85 : decode cX4_readChild 85 = .ok (.aload_n 0, 1) := by decide +kernel
theorem dX4_readChild_86 : decode cX4_readChild 86 = .ok (.getfield 51, 3) := by decide +kernel
theorem dX4_readChild_89 : decode cX4_readChild 89 = .ok (.invokevirtual 68, 3) := by decide +kernel
theorem dX4_readChild_92 : decode cX4_readChild 92 = .ok (.pop, 1) := by decide +kernel
theorem dX4_readChild_93 : decode cX4_readChild 93 = .ok (.aload_n 0, 1) := by decide +kernel
theorem dX4_readChild_94 : decode cX4_readChild 94 = .ok (.invokevirtual 57, 3) := by decide +kernel
theorem dX4_readChild_97 : decode cX4_readChild 97 = .ok (.ireturn, 1) := by decide +kernel
set_option maxRecDepth 20000 in
theorem ggX4_readCarrot_X4_nextNumber : GoodIn wsX4_readCarrot wsX4_nextNumber := goodIn_r _ [6, 7, 1, 8, 9, 10, 5, 11, 12, 13, 14, 15, 16, 17, 18, 19, 20, 21, 22, 23, 24, 25, 26, 27, 28, 29, 30, 31, 32, 33, 34, 35, 36, 37, 38, 39, 40, 41, 42, 43, 44, 45, 46, 47, 48, 49, 50, 51, 52, 53, 54, 55, 56, 57, 58, 59, 60, 61, 62, 63, 64, 65, 66, 67, 68, 69, 70, 71, 72, 73, 74, 75, 76, 77, 78, 79, 80, 81, 82, 106, 107, 108, 109, 110, 111] (by decide +kernel) (by decide +kernel)
set_option maxRecDepth 20000 in
theorem gX4_readCarrot_X4_nextNumber : GoodIn wsX4_readCarrot (wsV RX4 47 RX4 yX4_nextNumber wsX4_nextNumber) := goodIn_app (goodIn_of _ (by decide +kernel)) ggX4_readCarrot_X4_nextNumber
set_option maxRecDepth 20000 in
theorem ggX4_readCarrot_X3_giveCarrot : GoodIn wsX4_readCarrot wsX3_giveCarrot := goodIn_r _ [86, 87, 88, 89, 90, 91, 96, 97, 98, 99, 100, 101, 102, 103, 104, 105] (by decide +kernel) (by decide +kernel)
set_option maxRecDepth 20000 in
theorem gX4_readCarrot_X3_giveCarrot_n72 : GoodIn wsX4_readCarrot (wsX3_giveCarrot) := ggX4_readCarrot_X3_giveCarrot
set_option maxRecDepth 20000 in
theorem ggX4_readCarrot_X4_nextMark : GoodIn wsX4_readCarrot wsX4_nextMark := goodIn_r _ [95, 7, 8, 9, 10, 5, 11, 12, 13, 14, 15, 16, 17, 18, 19, 20, 21, 22, 23, 24, 25, 26, 27, 28, 29, 30, 31, 32, 33, 34, 35, 36, 37, 38, 39, 40, 41, 42, 43, 44, 45, 46, 47, 48, 49, 50, 51, 52, 53, 54, 55, 56, 57, 58, 59, 60, 61, 62, 63, 64, 65, 66, 67, 68, 69, 70, 71, 72, 73, 74, 75, 76, 77, 78, 79, 80, 81, 82, 1, 106, 107, 108, 109, 110, 111] (by decide +kernel) (by decide +kernel)
set_option maxRecDepth 20000 in
theorem gX4_readCarrot_X4_nextMark : GoodIn wsX4_readCarrot (wsV RX4 57 RX4 yX4_nextMark wsX4_nextMark) := goodIn_app (goodIn_of _ (by decide +kernel)) ggX4_readCarrot_X4_nextMark
theorem dX4_readCarrot_0 : decode cX4_readCarrot 0 = .ok (.aload_n 0, 1) := by decide +kernel
theorem dX4_readCarrot_1 : decode cX4_readCarrot 1 = .ok (.aload_n 1, 1) := by decide +kernel
theorem dX4_readCarrot_2 : decode cX4_readCarrot 2 = .ok (.getfield 61, 3) := by decide +kernel
theorem dX4_readCarrot_5 : decode cX4_readCarrot 5 = .ok (.iconst 1, 1) := by decide +kernel
theorem dX4_readCarrot_6 : decode cX4_readCarrot 6 = .ok (.isub, 1) := by decide +kernel
theorem dX4_readCarrot_7 : decode cX4_readCarrot 7 = .ok (.invokevirtual 47, 3) := by decide +kernel
theorem dX4_readCarrot_10 : decode cX4_readCarrot 10 = .ok (.ifCond .ne 5, 3) := by decide +kernel
theorem dX4_readCarrot_13 : decode cX4_readCarrot 13 = .ok (.iconst 0, 1) := by decide +kernel
theorem dX4_readCarrot_14 : decode cX4_readCarrot 14 = .ok (.ireturn, 1) := by decide +kernel
theorem dX4_readCarrot_15 : decode cX4_readCarrot 15 = .ok (.aload_n 1, 1) := by decide +kernel
theorem dX4_readCarrot_16 : decode cX4_readCarrot 16 = .ok (.aload_n 0, 1) := by decide +kernel
theorem dX4_readCarrot_17 : decode cX4_readCarrot 17 = .ok (.getfield 51, 3) := by decide +kernel
theorem dX4_readCarrot_20 : decode cX4_readCarrot 20 = .ok (.invokevirtual 72, 3) := by decide +kernel
theorem dX4_readCarrot_23 : decode cX4_readCarrot 23 = .ok (.pop, 1) := by decide +kernel
theorem dX4_readCarrot_24 : decode cX4_readCarrot 24 = .ok (.aload_n 0, 1) := by decide +kernel
theorem dX4_readCarrot_25 : decode cX4_readCarrot 25 = .ok (.invokevirtual 57, 3) := by decide +kernel
theorem dX4_readCarrot_28 : decode cX4_readCarrot 28 = .ok (.ireturn, 1) := by decide +kernel
set_option maxRecDepth 20000 in
theorem ggX4_nextNumber_X4_nextToken : GoodIn wsX4_nextNumber wsX4_nextToken := goodIn_r _ [7, 8, 9, 10, 11, 1, 12, 13, 6, 14, 15, 16, 17, 18, 19, 20, 21, 22, 23, 24, 25, 26, 27, 28, 29, 30, 31, 32, 33, 34, 35, 36, 37, 38, 39, 40, 41, 42, 43, 44, 45, 46, 47, 48, 49, 50, 51, 52, 53, 54, 55, 56, 57, 58, 59, 60, 61, 62, 63, 64, 65, 66, 67, 68, 69, 70, 71, 72, 73, 74, 75, 76, 77, 78, 2, 79, 80, 81, 82, 83, 84] (by decide +kernel) (by decide +kernel)
set_option maxRecDepth 20000 in
theorem gX4_nextNumber_X4_nextToken : GoodIn wsX4_nextNumber (wsV RX4 28 RX4 yX4_nextToken wsX4_nextToken) := goodIn_app (goodIn_of _ (by decide +kernel)) ggX4_nextNumber_X4_nextToken
theorem dX4_nextNumber_0 : decode cX4_nextNumber 0 = .ok (.aload_n 0, 1) := by decide +kernel
theorem dX4_nextNumber_1 : decode cX4_nextNumber 1 = .ok (.invokevirtual 28, 3) := by decide +kernel
theorem dX4_nextNumber_4 : decode cX4_nextNumber 4 = .ok (.aload_n 0, 1) := by decide +kernel
theorem dX4_nextNumber_5 : decode cX4_nextNumber 5 = .ok (.getfield 31, 3) := by decide +kernel
theorem dX4_nextNumber_8 : decode cX4_nextNumber 8 = .ok (.iconst 2, 1) := by decide +kernel
theorem dX4_nextNumber_9 : decode cX4_nextNumber 9 = .ok (.if_icmp .ne 15, 3) := by decide +kernel
theorem dX4_nextNumber_12 : decode cX4_nextNumber 12 = .ok (.aload_n 0, 1) := by decide +kernel
theorem dX4_nextNumber_13 : decode cX4_nextNumber 13 = .ok (.getfield 51, 3) := by decide +kernel
theorem dX4_nextNumber_16 : decode cX4_nextNumber 16 = .ok (.iload_n 1, 1) := by decide +kernel
theorem dX4_nextNumber_17 : decode cX4_nextNumber 17 = .ok (.if_icmp .gt 7, 3) := by decide +kernel
theorem dX4_nextNumber_20 : decode cX4_nextNumber 20 = .ok (.iconst 1, 1) := by decide +kernel
theorem dX4_nextNumber_21 : decode cX4_nextNumber 21 = .ok (.goto 4, 3) := by decide +kernel
theorem dX4_nextNumber_24 : decode cX4_nextNumber 24 = .ok (.iconst 0, 1) := by decide +kernel
theorem dX4_nextNumber_25 : decode cX4_nextNumber 25 = .ok (.ireturn, 1) := by decide +kernel
set_option maxRecDepth 20000 in
theorem ggX4_nextMark_X4_nextToken : GoodIn wsX4_nextMark wsX4_nextToken := goodIn_r _ [6, 7, 8, 9, 10, 1, 11, 12, 5, 13, 14, 15, 16, 17, 18, 19, 20, 21, 22, 23, 24, 25, 26, 27, 28, 29, 30, 31, 32, 33, 34, 35, 36, 37, 38, 39, 40, 41, 42, 43, 44, 45, 46, 47, 48, 49, 50, 51, 52, 53, 54, 55, 56, 57, 58, 59, 60, 61, 62, 63, 64, 65, 66, 67, 68, 69, 70, 71, 72, 73, 74, 75, 76, 77, 78, 79, 80, 81, 82, 83, 84] (by decide +kernel) (by decide +kernel)
set_option maxRecDepth 20000 in
theorem gX4_nextMark_X4_nextToken : GoodIn wsX4_nextMark (wsV RX4 28 RX4 yX4_nextToken wsX4_nextToken) := goodIn_app (goodIn_of _ (by decide +kernel)) ggX4_nextMark_X4_nextToken
theorem dX4_nextMark_0 : decode cX4_nextMark 0 = .ok (.aload_n 0, 1) := by decide +kernel
theorem dX4_nextMark_1 : decode cX4_nextMark 1 = .ok (.invokevirtual 28, 3) := by decide +kernel
theorem dX4_nextMark_4 : decode cX4_nextMark 4 = .ok (.aload_n 0, 1) := by decide +kernel
theorem dX4_nextMark_5 : decode cX4_nextMark 5 = .ok (.getfield 31, 3) := by decide +kernel
theorem dX4_nextMark_8 : decode cX4_nextMark 8 = .ok (.iconst 1, 1) := by decide +kernel
theorem dX4_nextMark_9 : decode cX4_nextMark 9 = .ok (.if_icmp .ne 7, 3) := by decide +kernel
theorem dX4_nextMark_12 : decode cX4_nextMark 12 = .ok (.iconst 1, 1) := by decide +kernel
theorem dX4_nextMark_13 : decode cX4_nextMark 13 = .ok (.goto 4, 3) := by decide +kernel
theorem dX4_nextMark_16 : decode cX4_nextMark 16 = .ok (.iconst 0, 1) := by decide +kernel
theorem dX4_nextMark_17 : decode cX4_nextMark 17 = .ok (.ireturn, 1) := by decide +kernel
set_option maxRecDepth 20000 in
theorem ggX4_nextToken_X4_isLetter : GoodIn wsX4_nextToken wsX4_isLetter := goodIn_r _ [9] (by decide +kernel) (by decide +kernel)
set_option maxRecDepth 20000 in
theorem gX4_nextToken_X4_isLetter : GoodIn wsX4_nextToken (va_wsS RX4 75 yX4_isLetter wsX4_isLetter) := goodIn_app (goodIn_of _ (by decide +kernel)) ggX4_nextToken_X4_isLetter
set_option maxRecDepth 20000 in
theorem ggX4_nextToken_X4_takeWord : GoodIn wsX4_nextToken wsX4_takeWord := goodIn_r _ [13, 1, 2, 3, 5, 6, 7, 8, 9, 14, 15, 16, 17, 4, 18, 19, 20, 21, 22, 23, 24, 25, 26, 27, 28, 29, 30, 31, 32, 33, 34, 35, 36, 37, 38, 39, 40, 41, 42, 43, 44, 45, 46, 47, 48, 49, 50, 51, 52, 53, 54, 55, 56, 57, 58, 59, 60, 61, 62, 63, 64, 65, 66, 75, 76, 77, 78, 79, 80] (by decide +kernel) (by decide +kernel)
set_option maxRecDepth 20000 in
theorem gX4_nextToken_X4_takeWord : GoodIn wsX4_nextToken (wsV RX4 78 RX4 yX4_takeWord wsX4_takeWord) := goodIn_app (goodIn_of _ (by decide +kernel)) ggX4_nextToken_X4_takeWord
set_option maxRecDepth 20000 in
theorem ggX4_nextToken_X4_isFigure : GoodIn wsX4_nextToken wsX4_isFigure := goodIn_r _ [69] (by decide +kernel) (by decide +kernel)
set_option maxRecDepth 20000 in
theorem gX4_nextToken_X4_isFigure : GoodIn wsX4_nextToken (va_wsS RX4 81 yX4_isFigure wsX4_isFigure) := goodIn_app (goodIn_of _ (by decide +kernel)) ggX4_nextToken_X4_isFigure
set_option maxRecDepth 20000 in
theorem ggX4_nextToken_X4_takeFigures : GoodIn wsX4_nextToken wsX4_takeFigures := goodIn_r _ [73, 74, 1, 2, 3, 4, 5, 67, 68, 8, 69, 75, 76, 77, 78, 79, 80] (by decide +kernel) (by decide +kernel)
set_option maxRecDepth 20000 in
theorem gX4_nextToken_X4_takeFigures : GoodIn wsX4_nextToken (wsV RX4 84 RX4 yX4_takeFigures wsX4_takeFigures) := goodIn_app (goodIn_of _ (by decide +kernel)) ggX4_nextToken_X4_takeFigures
theorem dX4_nextToken_0 : decode cX4_nextToken 0 = .ok (.aload_n 0, 1) := by decide +kernel
theorem dX4_nextToken_1 : decode cX4_nextToken 1 = .ok (.getfield 25, 3) := by decide +kernel
theorem dX4_nextToken_4 : decode cX4_nextToken 4 = .ok (.aload_n 0, 1) := by decide +kernel
theorem dX4_nextToken_5 : decode cX4_nextToken 5 = .ok (.getfield 15, 3) := by decide +kernel
theorem dX4_nextToken_8 : decode cX4_nextToken 8 = .ok (.if_icmp .ge 30, 3) := by decide +kernel
theorem dX4_nextToken_11 : decode cX4_nextToken 11 = .ok (.aload_n 0, 1) := by decide +kernel
theorem dX4_nextToken_12 : decode cX4_nextToken 12 = .ok (.getfield 9, 3) := by decide +kernel
theorem dX4_nextToken_15 : decode cX4_nextToken 15 = .ok (.aload_n 0, 1) := by decide +kernel
theorem dX4_nextToken_16 : decode cX4_nextToken 16 = .ok (.getfield 25, 3) := by decide +kernel
theorem dX4_nextToken_19 : decode cX4_nextToken 19 = .ok (.baload, 1) := by decide +kernel
theorem dX4_nextToken_20 : decode cX4_nextToken 20 = .ok (.bipush 32, 2) := by decide +kernel
theorem dX4_nextToken_22 : decode cX4_nextToken 22 = .ok (.if_icmp .ne 16, 3) := by decide +kernel
theorem dX4_nextToken_25 : decode cX4_nextToken 25 = .ok (.aload_n 0, 1) := by decide +kernel
theorem dX4_nextToken_26 : decode cX4_nextToken 26 = .ok (.dup, 1) := by decide +kernel
theorem dX4_nextToken_27 : decode cX4_nextToken 27 = .ok (.getfield 25, 3) := by decide +kernel
theorem dX4_nextToken_30 : decode cX4_nextToken 30 = .ok (.iconst 1, 1) := by decide +kernel
theorem dX4_nextToken_31 : decode cX4_nextToken 31 = .ok (.iadd, 1) := by decide +kernel
theorem dX4_nextToken_32 : decode cX4_nextToken 32 = .ok (.putfield 25, 3) := by decide +kernel
theorem dX4_nextToken_35 : decode cX4_nextToken 35 = .ok (.goto (-35), 3) := by decide +kernel
theorem dX4_nextToken_38 : decode cX4_nextToken 38 = .ok (.aload_n 0, 1) := by decide +kernel
theorem dX4_nextToken_39 : decode cX4_nextToken 39 = .ok (.aload_n 0, 1) := by decide +kernel
theorem dX4_nextToken_40 : decode cX4_nextToken 40 = .ok (.getfield 25, 3) := by decide +kernel
theorem dX4_nextToken_43 : decode cX4_nextToken 43 = .ok (.putfield 44, 3) := by decide +kernel
theorem dX4_nextToken_46 : decode cX4_nextToken 46 = .ok (.aload_n 0, 1) := by decide +kernel
theorem dX4_nextToken_47 : decode cX4_nextToken 47 = .ok (.getfield 44, 3) := by decide +kernel
theorem dX4_nextToken_50 : decode cX4_nextToken 50 = .ok (.aload_n 0, 1) := by decide +kernel
theorem dX4_nextToken_51 : decode cX4_nextToken 51 = .ok (.getfield 15, 3) := by decide +kernel
theorem dX4_nextToken_54 : decode cX4_nextToken 54 = .ok (.if_icmp .lt 11, 3) := by decide +kernel
theorem dX4_nextToken_57 : decode cX4_nextToken 57 = .ok (.aload_n 0, 1) := by decide +kernel
theorem dX4_nextToken_58 : decode cX4_nextToken 58 = .ok (.iconst 0, 1) := by decide +kernel
theorem dX4_nextToken_59 : decode cX4_nextToken 59 = .ok (.putfield 31, 3) := by decide +kernel
theorem dX4_nextToken_62 : decode cX4_nextToken 62 = .ok (.goto 81, 3) := by decide +kernel
theorem dX4_nextToken_65 : decode cX4_nextToken 65 = .ok (.aload_n 0, 1) := by decide +kernel
theorem dX4_nextToken_66 : decode cX4_nextToken 66 = .ok (.getfield 9, 3) := by decide +kernel
theorem dX4_nextToken_69 : decode cX4_nextToken 69 = .ok (.aload_n 0, 1) := by decide +kernel
theorem dX4_nextToken_70 : decode cX4_nextToken 70 = .ok (.getfield 44, 3) := by decide +kernel
theorem dX4_nextToken_73 : decode cX4_nextToken 73 = .ok (.baload, 1) := by decide +kernel
theorem dX4_nextToken_74 : decode cX4_nextToken 74 = .ok (.invokestatic 75, 3) := by decide +kernel
theorem dX4_nextToken_77 : decode cX4_nextToken 77 = .ok (.ifCond .eq 10, 3) := by decide +kernel
theorem dX4_nextToken_80 : decode cX4_nextToken 80 = .ok (.aload_n 0, 1) := by decide +kernel
theorem dX4_nextToken_81 : decode cX4_nextToken 81 = .ok (.invokevirtual 78, 3) := by decide +kernel
theorem dX4_nextToken_84 : decode cX4_nextToken 84 = .ok (.goto 59, 3) := by decide +kernel
theorem dX4_nextToken_87 : decode cX4_nextToken 87 = .ok (.aload_n 0, 1) := by decide +kernel
theorem dX4_nextToken_88 : decode cX4_nextToken 88 = .ok (.getfield 9, 3) := by decide +kernel
theorem dX4_nextToken_91 : decode cX4_nextToken 91 = .ok (.aload_n 0, 1) := by decide +kernel
theorem dX4_nextToken_92 : decode cX4_nextToken 92 = .ok (.getfield 44, 3) := by decide +kernel
theorem dX4_nextToken_95 : decode cX4_nextToken 95 = .ok (.baload, 1) := by decide +kernel
theorem dX4_nextToken_96 : decode cX4_nextToken 96 = .ok (.invokestatic 81, 3) := by decide +kernel
theorem dX4_nextToken_99 : decode cX4_nextToken 99 = .ok (.ifCond .eq 10, 3) := by decide +kernel
theorem dX4_nextToken_102 : decode cX4_nextToken 102 = .ok (.aload_n 0, 1) := by decide +kernel
theorem dX4_nextToken_103 : decode cX4_nextToken 103 = .ok (.invokevirtual 84, 3) := by decide +kernel
theorem dX4_nextToken_106 : decode cX4_nextToken 106 = .ok (.goto 37, 3) := by decide +kernel
theorem dX4_nextToken_109 : decode cX4_nextToken 109 = .ok (.aload_n 0, 1) := by decide +kernel
theorem dX4_nextToken_110 : decode cX4_nextToken 110 = .ok (.aload_n 0, 1) := by decide +kernel
theorem dX4_nextToken_111 : decode cX4_nextToken 111 = .ok (.getfield 9, 3) := by decide +kernel
theorem dX4_nextToken_114 : decode cX4_nextToken 114 = .ok (.aload_n 0, 1) := by decide +kernel
theorem dX4_nextToken_115 : decode cX4_nextToken 115 = .ok (.getfield 44, 3) := by decide +kernel
theorem dX4_nextToken_118 : decode cX4_nextToken 118 = .ok (.baload, 1) := by decide +kernel
theorem dX4_nextToken_119 : decode cX4_nextToken 119 = .ok (.bipush 59, 2) := by decide +kernel
theorem dX4_nextToken_121 : decode cX4_nextToken 121 = .ok (.if_icmp .ne 7, 3) := by decide +kernel
theorem dX4_nextToken_124 : decode cX4_nextToken 124 = .ok (.iconst 1, 1) := by decide +kernel
theorem dX4_nextToken_125 : decode cX4_nextToken 125 = .ok (.goto 5, 3) := by decide +kernel
theorem dX4_nextToken_128 : decode cX4_nextToken 128 = .ok (.bipush 6, 2) := by decide +kernel
theorem dX4_nextToken_130 : decode cX4_nextToken 130 = .ok (.putfield 31, 3) := by decide +kernel
theorem dX4_nextToken_133 : decode cX4_nextToken 133 = .ok (.aload_n 0, 1) := by decide +kernel
theorem dX4_nextToken_134 : decode cX4_nextToken 134 = .ok (.dup, 1) := by decide +kernel
theorem dX4_nextToken_135 : decode cX4_nextToken 135 = .ok (.getfield 25, 3) := by decide +kernel
theorem dX4_nextToken_138 : decode cX4_nextToken 138 = .ok (.iconst 1, 1) := by decide +kernel
theorem dX4_nextToken_139 : decode cX4_nextToken 139 = .ok (.iadd, 1) := by decide +kernel
theorem dX4_nextToken_140 : decode cX4_nextToken 140 = .ok (.putfield 25, 3) := by decide +kernel
theorem dX4_nextToken_143 : decode cX4_nextToken 143 = .ok (.return_, 1) := by decide +kernel
set_option maxRecDepth 20000 in
theorem ggX4_takeWord_X4_isLetter : GoodIn wsX4_takeWord wsX4_isLetter := goodIn_r _ [8] (by decide +kernel) (by decide +kernel)
set_option maxRecDepth 20000 in
theorem gX4_takeWord_X4_isLetter : GoodIn wsX4_takeWord (va_wsS RX4 75 yX4_isLetter wsX4_isLetter) := goodIn_app (goodIn_of _ (by decide +kernel)) ggX4_takeWord_X4_isLetter
set_option maxRecDepth 20000 in
theorem ggX4_takeWord_X4_isWord : GoodIn wsX4_takeWord wsX4_isWord := goodIn_r _ [12, 1, 13, 3, 14, 15, 16, 17, 18, 19, 20, 21, 22, 23, 24, 25, 26, 27, 28, 29, 30, 31, 32, 33, 34, 35, 36, 37, 38, 39, 40, 41, 42, 43, 44, 45, 46, 47, 48, 49, 50, 51, 52, 53, 54, 55, 56, 57, 58, 59, 60, 61, 62, 63, 64, 65, 66, 67, 68] (by decide +kernel) (by decide +kernel)
set_option maxRecDepth 20000 in
theorem gX4_takeWord_X4_isWord : GoodIn wsX4_takeWord (wsV RX4 89 RX4 yX4_isWord wsX4_isWord) := goodIn_app (goodIn_of _ (by decide +kernel)) ggX4_takeWord_X4_isWord
theorem dX4_takeWord_0 : decode cX4_takeWord 0 = .ok (.aload_n 0, 1) := by decide +kernel
theorem dX4_takeWord_1 : decode cX4_takeWord 1 = .ok (.getfield 25, 3) := by decide +kernel
theorem dX4_takeWord_4 : decode cX4_takeWord 4 = .ok (.aload_n 0, 1) := by decide +kernel
theorem dX4_takeWord_5 : decode cX4_takeWord 5 = .ok (.getfield 15, 3) := by decide +kernel
theorem dX4_takeWord_8 : decode cX4_takeWord 8 = .ok (.if_icmp .ge 31, 3) := by decide +kernel
theorem dX4_takeWord_11 : decode cX4_takeWord 11 = .ok (.aload_n 0, 1) := by decide +kernel
theorem dX4_takeWord_12 : decode cX4_takeWord 12 = .ok (.getfield 9, 3) := by decide +kernel
theorem dX4_takeWord_15 : decode cX4_takeWord 15 = .ok (.aload_n 0, 1) := by decide +kernel
theorem dX4_takeWord_16 : decode cX4_takeWord 16 = .ok (.getfield 25, 3) := by decide +kernel
theorem dX4_takeWord_19 : decode cX4_takeWord 19 = .ok (.baload, 1) := by decide +kernel
theorem dX4_takeWord_20 : decode cX4_takeWord 20 = .ok (.invokestatic 75, 3) := by decide +kernel
theorem dX4_takeWord_23 : decode cX4_takeWord 23 = .ok (.ifCond .eq 16, 3) := by decide +kernel
theorem dX4_takeWord_26 : decode cX4_takeWord 26 = .ok (.aload_n 0, 1) := by decide +kernel
theorem dX4_takeWord_27 : decode cX4_takeWord 27 = .ok (.dup, 1) := by decide +kernel
theorem dX4_takeWord_28 : decode cX4_takeWord 28 = .ok (.getfield 25, 3) := by decide +kernel
theorem dX4_takeWord_31 : decode cX4_takeWord 31 = .ok (.iconst 1, 1) := by decide +kernel
theorem dX4_takeWord_32 : decode cX4_takeWord 32 = .ok (.iadd, 1) := by decide +kernel
theorem dX4_takeWord_33 : decode cX4_takeWord 33 = .ok (.putfield 25, 3) := by decide +kernel
theorem dX4_takeWord_36 : decode cX4_takeWord 36 = .ok (.goto (-36), 3) := by decide +kernel
theorem dX4_takeWord_39 : decode cX4_takeWord 39 = .ok (.aload_n 0, 1) := by decide +kernel
theorem dX4_takeWord_40 : decode cX4_takeWord 40 = .ok (.ldc 87, 2) := by decide +kernel
theorem dX4_takeWord_42 : decode cX4_takeWord 42 = .ok (.invokevirtual 89, 3) := by decide +kernel
theorem dX4_takeWord_45 : decode cX4_takeWord 45 = .ok (.ifCond .eq 11, 3) := by decide +kernel
theorem dX4_takeWord_48 : decode cX4_takeWord 48 = .ok (.aload_n 0, 1) := by decide +kernel
theorem dX4_takeWord_49 : decode cX4_takeWord 49 = .ok (.iconst 3, 1) := by decide +kernel
theorem dX4_takeWord_50 : decode cX4_takeWord 50 = .ok (.putfield 31, 3) := by decide +kernel
theorem dX4_takeWord_53 : decode cX4_takeWord 53 = .ok (.goto 39, 3) := by decide +kernel
theorem dX4_takeWord_56 : decode cX4_takeWord 56 = .ok (.aload_n 0, 1) := by decide +kernel
theorem dX4_takeWord_57 : decode cX4_takeWord 57 = .ok (.ldc 93, 2) := by decide +kernel
theorem dX4_takeWord_59 : decode cX4_takeWord 59 = .ok (.invokevirtual 89, 3) := by decide +kernel
theorem dX4_takeWord_62 : decode cX4_takeWord 62 = .ok (.ifCond .eq 11, 3) := by decide +kernel
theorem dX4_takeWord_65 : decode cX4_takeWord 65 = .ok (.aload_n 0, 1) := by decide +kernel
theorem dX4_takeWord_66 : decode cX4_takeWord 66 = .ok (.iconst 4, 1) := by decide +kernel
theorem dX4_takeWord_67 : decode cX4_takeWord 67 = .ok (.putfield 31, 3) := by decide +kernel
theorem dX4_takeWord_70 : decode cX4_takeWord 70 = .ok (.goto 22, 3) := by decide +kernel
theorem dX4_takeWord_73 : decode cX4_takeWord 73 = .ok (.aload_n 0, 1) := by decide +kernel
theorem dX4_takeWord_74 : decode cX4_takeWord 74 = .ok (.aload_n 0, 1) := by decide +kernel
theorem dX4_takeWord_75 : decode cX4_takeWord 75 = .ok (.ldc 95, 2) := by decide +kernel
theorem dX4_takeWord_77 : decode cX4_takeWord 77 = .ok (.invokevirtual 89, 3) := by decide +kernel
theorem dX4_takeWord_80 : decode cX4_takeWord 80 = .ok (.ifCond .eq 7, 3) := by decide +kernel
theorem dX4_takeWord_83 : decode cX4_takeWord 83 = .ok (.iconst 5, 1) := by decide +kernel
theorem dX4_takeWord_84 : decode cX4_takeWord 84 = .ok (.goto 5, 3) := by decide +kernel
theorem dX4_takeWord_87 : decode cX4_takeWord 87 = .ok (.bipush 6, 2) := by decide +kernel
theorem dX4_takeWord_89 : decode cX4_takeWord 89 = .ok (.putfield 31, 3) := by decide +kernel
theorem dX4_takeWord_92 : decode cX4_takeWord 92 = .ok (.return_, 1) := by decide +kernel
set_option maxRecDepth 20000 in
theorem ggX4_takeFigures_X4_isFigure : GoodIn wsX4_takeFigures wsX4_isFigure := goodIn_r _ [10] (by decide +kernel) (by decide +kernel)
set_option maxRecDepth 20000 in
theorem gX4_takeFigures_X4_isFigure : GoodIn wsX4_takeFigures (va_wsS RX4 81 yX4_isFigure wsX4_isFigure) := goodIn_app (goodIn_of _ (by decide +kernel)) ggX4_takeFigures_X4_isFigure
theorem dX4_takeFigures_0 : decode cX4_takeFigures 0 = .ok (.aload_n 0, 1) := by decide +kernel
theorem dX4_takeFigures_1 : decode cX4_takeFigures 1 = .ok (.iconst 0, 1) := by decide +kernel
theorem dX4_takeFigures_2 : decode cX4_takeFigures 2 = .ok (.putfield 51, 3) := by decide +kernel
theorem dX4_takeFigures_5 : decode cX4_takeFigures 5 = .ok (.aload_n 0, 1) := by decide +kernel
theorem dX4_takeFigures_6 : decode cX4_takeFigures 6 = .ok (.getfield 25, 3) := by decide +kernel
theorem dX4_takeFigures_9 : decode cX4_takeFigures 9 = .ok (.aload_n 0, 1) := by decide +kernel
theorem dX4_takeFigures_10 : decode cX4_takeFigures 10 = .ok (.getfield 15, 3) := by decide +kernel
theorem dX4_takeFigures_13 : decode cX4_takeFigures 13 = .ok (.if_icmp .ge 68, 3) := by decide +kernel
theorem dX4_takeFigures_16 : decode cX4_takeFigures 16 = .ok (.aload_n 0, 1) := by decide +kernel
theorem dX4_takeFigures_17 : decode cX4_takeFigures 17 = .ok (.getfield 9, 3) := by decide +kernel
theorem dX4_takeFigures_20 : decode cX4_takeFigures 20 = .ok (.aload_n 0, 1) := by decide +kernel
theorem dX4_takeFigures_21 : decode cX4_takeFigures 21 = .ok (.getfield 25, 3) := by decide +kernel
theorem dX4_takeFigures_24 : decode cX4_takeFigures 24 = .ok (.baload, 1) := by decide +kernel
theorem dX4_takeFigures_25 : decode cX4_takeFigures 25 = .ok (.invokestatic 81, 3) := by decide +kernel
theorem dX4_takeFigures_28 : decode cX4_takeFigures 28 = .ok (.ifCond .eq 53, 3) := by decide +kernel
theorem dX4_takeFigures_31 : decode cX4_takeFigures 31 = .ok (.aload_n 0, 1) := by decide +kernel
theorem dX4_takeFigures_32 : decode cX4_takeFigures 32 = .ok (.getfield 25, 3) := by decide +kernel
theorem dX4_takeFigures_35 : decode cX4_takeFigures 35 = .ok (.aload_n 0, 1) := by decide +kernel
theorem dX4_takeFigures_36 : decode cX4_takeFigures 36 = .ok (.getfield 44, 3) := by decide +kernel
theorem dX4_takeFigures_39 : decode cX4_takeFigures 39 = .ok (.isub, 1) := by decide +kernel
theorem dX4_takeFigures_40 : decode cX4_takeFigures 40 = .ok (.iconst 2, 1) := by decide +kernel
theorem dX4_takeFigures_41 : decode cX4_takeFigures 41 = .ok (.if_icmp .ge 27, 3) := by decide +kernel
theorem dX4_takeFigures_44 : decode cX4_takeFigures 44 = .ok (.aload_n 0, 1) := by decide +kernel
theorem dX4_takeFigures_45 : decode cX4_takeFigures 45 = .ok (.bipush 10, 2) := by decide +kernel
theorem dX4_takeFigures_47 : decode cX4_takeFigures 47 = .ok (.aload_n 0, 1) := by decide +kernel
theorem dX4_takeFigures_48 : decode cX4_takeFigures 48 = .ok (.getfield 51, 3) := by decide +kernel
theorem dX4_takeFigures_51 : decode cX4_takeFigures 51 = .ok (.imul, 1) := by decide +kernel
theorem dX4_takeFigures_52 : decode cX4_takeFigures 52 = .ok (.aload_n 0, 1) := by decide +kernel
theorem dX4_takeFigures_53 : decode cX4_takeFigures 53 = .ok (.getfield 9, 3) := by decide +kernel
theorem dX4_takeFigures_56 : decode cX4_takeFigures 56 = .ok (.aload_n 0, 1) := by decide +kernel
theorem dX4_takeFigures_57 : decode cX4_takeFigures 57 = .ok (.getfield 25, 3) := by decide +kernel
theorem dX4_takeFigures_60 : decode cX4_takeFigures 60 = .ok (.baload, 1) := by decide +kernel
theorem dX4_takeFigures_61 : decode cX4_takeFigures 61 = .ok (.iadd, 1) := by decide +kernel
theorem dX4_takeFigures_62 : decode cX4_takeFigures 62 = .ok (.bipush 48, 2) := by decide +kernel
theorem dX4_takeFigures_64 : decode cX4_takeFigures 64 = .ok (.isub, 1) := by decide +kernel
theorem dX4_takeFigures_65 : decode cX4_takeFigures 65 = .ok (.putfield 51, 3) := by decide +kernel
theorem dX4_takeFigures_68 : decode cX4_takeFigures 68 = .ok (.aload_n 0, 1) := by decide +kernel
theorem dX4_takeFigures_69 : decode cX4_takeFigures 69 = .ok (.dup, 1) := by decide +kernel
theorem dX4_takeFigures_70 : decode cX4_takeFigures 70 = .ok (.getfield 25, 3) := by decide +kernel
theorem dX4_takeFigures_73 : decode cX4_takeFigures 73 = .ok (.iconst 1, 1) := by decide +kernel
theorem dX4_takeFigures_74 : decode cX4_takeFigures 74 = .ok (.iadd, 1) := by decide +kernel
theorem dX4_takeFigures_75 : decode cX4_takeFigures 75 = .ok (.putfield 25, 3) := by decide +kernel
theorem dX4_takeFigures_78 : decode cX4_takeFigures 78 = .ok (.goto (-73), 3) := by decide +kernel
theorem dX4_takeFigures_81 : decode cX4_takeFigures 81 = .ok (.aload_n 0, 1) := by decide +kernel
theorem dX4_takeFigures_82 : decode cX4_takeFigures 82 = .ok (.aload_n 0, 1) := by decide +kernel
theorem dX4_takeFigures_83 : decode cX4_takeFigures 83 = .ok (.getfield 25, 3) := by decide +kernel
theorem dX4_takeFigures_86 : decode cX4_takeFigures 86 = .ok (.aload_n 0, 1) := by decide +kernel
theorem dX4_takeFigures_87 : decode cX4_takeFigures 87 = .ok (.getfield 44, 3) := by decide +kernel
theorem dX4_takeFigures_90 : decode cX4_takeFigures 90 = .ok (.isub, 1) := by decide +kernel
theorem dX4_takeFigures_91 : decode cX4_takeFigures 91 = .ok (.iconst 2, 1) := by decide +kernel
theorem dX4_takeFigures_92 : decode cX4_takeFigures 92 = .ok (.if_icmp .gt 7, 3) := by decide +kernel
theorem dX4_takeFigures_95 : decode cX4_takeFigures 95 = .ok (.iconst 2, 1) := by decide +kernel
theorem dX4_takeFigures_96 : decode cX4_takeFigures 96 = .ok (.goto 5, 3) := by decide +kernel
theorem dX4_takeFigures_99 : decode cX4_takeFigures 99 = .ok (.bipush 6, 2) := by decide +kernel
theorem dX4_takeFigures_101 : decode cX4_takeFigures 101 = .ok (.putfield 31, 3) := by decide +kernel
theorem dX4_takeFigures_104 : decode cX4_takeFigures 104 = .ok (.return_, 1) := by decide +kernel
set_option maxRecDepth 20000 in
theorem ggX4_isWord_J0_length_8abf5 : GoodIn wsX4_isWord wsJ0_length_8abf5 := goodIn_r _ [8, 9, 10, 11, 12, 7, 13, 14, 15] (by decide +kernel) (by decide +kernel)
set_option maxRecDepth 20000 in
theorem gX4_isWord_J0_length_8abf5 : GoodIn wsX4_isWord (wsV RX4 97 RJ0 yJ0_length_8abf5 wsJ0_length_8abf5) := goodIn_app (goodIn_of _ (by decide +kernel)) ggX4_isWord_J0_length_8abf5
set_option maxRecDepth 20000 in
theorem ggX4_isWord_J0_charAt_5068e : GoodIn wsX4_isWord wsJ0_charAt_5068e := goodIn_r _ [19, 9, 20, 21, 22, 7, 23, 14, 15, 24, 25, 26, 27, 28, 29, 30, 31, 32, 33, 34, 35, 36, 37, 38, 39, 40, 41, 42, 43, 44, 45, 46, 47, 48, 49, 50, 51, 52] (by decide +kernel) (by decide +kernel)
set_option maxRecDepth 20000 in
theorem gX4_isWord_J0_charAt_5068e : GoodIn wsX4_isWord (wsV RX4 102 RJ0 yJ0_charAt_5068e wsJ0_charAt_5068e) := goodIn_app (goodIn_of _ (by decide +kernel)) ggX4_isWord_J0_charAt_5068e
theorem dX4_isWord_0 : decode cX4_isWord 0 = .ok (.aload_n 0, 1) := by decide +kernel
theorem dX4_isWord_1 : decode cX4_isWord 1 = .ok (.getfield 25, 3) := by decide +kernel
theorem dX4_isWord_4 : decode cX4_isWord 4 = .ok (.aload_n 0, 1) := by decide +kernel
theorem dX4_isWord_5 : decode cX4_isWord 5 = .ok (.getfield 44, 3) := by decide +kernel
theorem dX4_isWord_8 : decode cX4_isWord 8 = .ok (.isub, 1) := by decide +kernel
theorem dX4_isWord_9 : decode cX4_isWord 9 = .ok (.aload_n 1, 1) := by decide +kernel
theorem dX4_isWord_10 : decode cX4_isWord 10 = .ok (.invokevirtual 97, 3) := by decide +kernel
theorem dX4_isWord_13 : decode cX4_isWord 13 = .ok (.if_icmp .eq 5, 3) := by decide +kernel
theorem dX4_isWord_16 : decode cX4_isWord 16 = .ok (.iconst 0, 1) := by decide +kernel
theorem dX4_isWord_17 : decode cX4_isWord 17 = .ok (.ireturn, 1) := by decide +kernel
theorem dX4_isWord_18 : decode cX4_isWord 18 = .ok (.iconst 0, 1) := by decide +kernel
theorem dX4_isWord_19 : decode cX4_isWord 19 = .ok (.istore_n 2, 1) := by decide +kernel
theorem dX4_isWord_20 : decode cX4_isWord 20 = .ok (.iload_n 2, 1) := by decide +kernel
theorem dX4_isWord_21 : decode cX4_isWord 21 = .ok (.aload_n 1, 1) := by decide +kernel
theorem dX4_isWord_22 : decode cX4_isWord 22 = .ok (.invokevirtual 97, 3) := by decide +kernel
theorem dX4_isWord_25 : decode cX4_isWord 25 = .ok (.if_icmp .ge 30, 3) := by decide +kernel
theorem dX4_isWord_28 : decode cX4_isWord 28 = .ok (.aload_n 0, 1) := by decide +kernel
theorem dX4_isWord_29 : decode cX4_isWord 29 = .ok (.getfield 9, 3) := by decide +kernel
theorem dX4_isWord_32 : decode cX4_isWord 32 = .ok (.aload_n 0, 1) := by decide +kernel
theorem dX4_isWord_33 : decode cX4_isWord 33 = .ok (.getfield 44, 3) := by decide +kernel
theorem dX4_isWord_36 : decode cX4_isWord 36 = .ok (.iload_n 2, 1) := by decide +kernel
theorem dX4_isWord_37 : decode cX4_isWord 37 = .ok (.iadd, 1) := by decide +kernel
theorem dX4_isWord_38 : decode cX4_isWord 38 = .ok (.baload, 1) := by decide +kernel
theorem dX4_isWord_39 : decode cX4_isWord 39 = .ok (.aload_n 1, 1) := by decide +kernel
theorem dX4_isWord_40 : decode cX4_isWord 40 = .ok (.iload_n 2, 1) := by decide +kernel
theorem dX4_isWord_41 : decode cX4_isWord 41 = .ok (.invokevirtual 102, 3) := by decide +kernel
theorem dX4_isWord_44 : decode cX4_isWord 44 = .ok (.if_icmp .eq 5, 3) := by decide +kernel
theorem dX4_isWord_47 : decode cX4_isWord 47 = .ok (.iconst 0, 1) := by decide +kernel
theorem dX4_isWord_48 : decode cX4_isWord 48 = .ok (.ireturn, 1) := by decide +kernel
theorem dX4_isWord_49 : decode cX4_isWord 49 = .ok (.iinc 2 1, 3) := by decide +kernel
theorem dX4_isWord_52 : decode cX4_isWord 52 = .ok (.goto (-32), 3) := by decide +kernel
theorem dX4_isWord_55 : decode cX4_isWord 55 = .ok (.iconst 1, 1) := by decide +kernel
theorem dX4_isWord_56 : decode cX4_isWord 56 = .ok (.ireturn, 1) := by decide +kernel
theorem dX4_isLetter_0 : decode cX4_isLetter 0 = .ok (.iload_n 0, 1) := by decide +kernel
theorem dX4_isLetter_1 : decode cX4_isLetter 1 = .ok (.bipush 97, 2) := by decide +kernel
theorem dX4_isLetter_3 : decode cX4_isLetter 3 = .ok (.if_icmp .lt 13, 3) := by decide +kernel
theorem dX4_isLetter_6 : decode cX4_isLetter 6 = .ok (.iload_n 0, 1) := by decide +kernel
theorem dX4_isLetter_7 : decode cX4_isLetter 7 = .ok (.bipush 122, 2) := by decide +kernel
theorem dX4_isLetter_9 : decode cX4_isLetter 9 = .ok (.if_icmp .gt 7, 3) := by decide +kernel
theorem dX4_isLetter_12 : decode cX4_isLetter 12 = .ok (.iconst 1, 1) := by decide +kernel
theorem dX4_isLetter_13 : decode cX4_isLetter 13 = .ok (.goto 4, 3) := by decide +kernel
theorem dX4_isLetter_16 : decode cX4_isLetter 16 = .ok (.iconst 0, 1) := by decide +kernel
theorem dX4_isLetter_17 : decode cX4_isLetter 17 = .ok (.ireturn, 1) := by decide +kernel
theorem dX4_isFigure_0 : decode cX4_isFigure 0 = .ok (.iload_n 0, 1) := by decide +kernel
theorem dX4_isFigure_1 : decode cX4_isFigure 1 = .ok (.bipush 48, 2) := by decide +kernel
theorem dX4_isFigure_3 : decode cX4_isFigure 3 = .ok (.if_icmp .lt 13, 3) := by decide +kernel
theorem dX4_isFigure_6 : decode cX4_isFigure 6 = .ok (.iload_n 0, 1) := by decide +kernel
theorem dX4_isFigure_7 : decode cX4_isFigure 7 = .ok (.bipush 57, 2) := by decide +kernel
theorem dX4_isFigure_9 : decode cX4_isFigure 9 = .ok (.if_icmp .gt 7, 3) := by decide +kernel
theorem dX4_isFigure_12 : decode cX4_isFigure 12 = .ok (.iconst 1, 1) := by decide +kernel
theorem dX4_isFigure_13 : decode cX4_isFigure 13 = .ok (.goto 4, 3) := by decide +kernel
theorem dX4_isFigure_16 : decode cX4_isFigure 16 = .ok (.iconst 0, 1) := by decide +kernel
theorem dX4_isFigure_17 : decode cX4_isFigure 17 = .ok (.ireturn, 1) := by decide +kernel
set_option maxRecDepth 20000 in
theorem ggX5_init_X2_init : GoodIn wsX5_init wsX2_init := goodIn_r _ [25, 26, 2, 3, 27, 16, 17, 28, 29, 30, 31, 32, 33, 34, 35, 36, 37, 38, 39, 19, 40, 41, 42, 43, 44, 45, 46, 47, 48, 49, 50, 51, 52, 53, 77, 78, 79, 80, 81, 82, 83, 84, 85, 86, 59, 60, 61, 87, 88, 89, 90, 91] (by decide +kernel) (by decide +kernel)
set_option maxRecDepth 20000 in
theorem gX5_init_X2_init_n9 : GoodIn wsX5_init (wsX2_init) := ggX5_init_X2_init
set_option maxRecDepth 20000 in
theorem ggX5_init_X4_init : GoodIn wsX5_init wsX4_init := goodIn_r _ [55, 56, 2, 3, 57, 58, 71, 72, 73, 74, 75, 76] (by decide +kernel) (by decide +kernel)
set_option maxRecDepth 20000 in
theorem gX5_init_X4_init_n26 : GoodIn wsX5_init (wsX4_init) := ggX5_init_X4_init
set_option maxRecDepth 20000 in
theorem ggX5_init_X3_init : GoodIn wsX5_init wsX3_init := goodIn_r _ [38, 39, 2, 3, 19, 40, 41, 42, 43, 44, 77, 78, 79, 80, 81, 82, 83, 84, 85, 86] (by decide +kernel) (by decide +kernel)
set_option maxRecDepth 20000 in
theorem gX5_init_X3_init_n33 : GoodIn wsX5_init (wsX3_init) := ggX5_init_X3_init
theorem dX5_init_0 : decode cX5_init 0 = .ok (.aload_n 0, 1) := by decide +kernel
theorem dX5_init_1 : decode cX5_init 1 = .ok (.invokespecial 1, 3) := by decide +kernel
theorem dX5_init_4 : decode cX5_init 4 = .ok (.aload_n 0, 1) := by decide +kernel
theorem dX5_init_5 : decode cX5_init 5 = .ok (.new 7, 3) := by decide +kernel
theorem dX5_init_8 : decode cX5_init 8 = .ok (.dup, 1) := by decide +kernel
theorem dX5_init_9 : decode cX5_init 9 = .ok (.invokespecial 9, 3) := by decide +kernel
theorem dX5_init_12 : decode cX5_init 12 = .ok (.putfield 10, 3) := by decide +kernel
theorem dX5_init_15 : decode cX5_init 15 = .ok (.aload_n 0, 1) := by decide +kernel
theorem dX5_init_16 : decode cX5_init 16 = .ok (.iconst 2, 1) := by decide +kernel
theorem dX5_init_17 : decode cX5_init 17 = .ok (.anewarray 7, 3) := by decide +kernel
theorem dX5_init_20 : decode cX5_init 20 = .ok (.putfield 16, 3) := by decide +kernel
theorem dX5_init_23 : decode cX5_init 23 = .ok (.iconst 0, 1) := by decide +kernel
theorem dX5_init_24 : decode cX5_init 24 = .ok (.istore_n 1, 1) := by decide +kernel
theorem dX5_init_25 : decode cX5_init 25 = .ok (.iload_n 1, 1) := by decide +kernel
theorem dX5_init_26 : decode cX5_init 26 = .ok (.iconst 2, 1) := by decide +kernel
theorem dX5_init_27 : decode cX5_init 27 = .ok (.if_icmp .ge 22, 3) := by decide +kernel
theorem dX5_init_30 : decode cX5_init 30 = .ok (.aload_n 0, 1) := by decide +kernel
theorem dX5_init_31 : decode cX5_init 31 = .ok (.getfield 16, 3) := by decide +kernel
theorem dX5_init_34 : decode cX5_init 34 = .ok (.iload_n 1, 1) := by decide +kernel
theorem dX5_init_35 : decode cX5_init 35 = .ok (.new 7, 3) := by decide +kernel
theorem dX5_init_38 : decode cX5_init 38 = .ok (.dup, 1) := by decide +kernel
theorem dX5_init_39 : decode cX5_init 39 = .ok (.invokespecial 9, 3) := by decide +kernel
theorem dX5_init_42 : decode cX5_init 42 = .ok (.aastore, 1) := by decide +kernel
theorem dX5_init_43 : decode cX5_init 43 = .ok (.iinc 1 1, 3) := by decide +kernel
theorem dX5_init_46 : decode cX5_init 46 = .ok (.goto (-21), 3) := by decide +kernel
theorem dX5_init_49 : decode cX5_init 49 = .ok (.aload_n 0, 1) := by decide +kernel
theorem dX5_init_50 : decode cX5_init 50 = .ok (.iconst 2, 1) := by decide +kernel
theorem dX5_init_51 : decode cX5_init 51 = .ok (.newarray .boolean, 2) := by decide +kernel
theorem dX5_init_53 : decode cX5_init 53 = .ok (.putfield 20, 3) := by decide +kernel
theorem dX5_init_56 : decode cX5_init 56 = .ok (.aload_n 0, 1) := by decide +kernel
theorem dX5_init_57 : decode cX5_init 57 = .ok (.new 24, 3) := by decide +kernel
theorem dX5_init_60 : decode cX5_init 60 = .ok (.dup, 1) := by decide +kernel
theorem dX5_init_61 : decode cX5_init 61 = .ok (.invokespecial 26, 3) := by decide +kernel
theorem dX5_init_64 : decode cX5_init 64 = .ok (.putfield 27, 3) := by decide +kernel
theorem dX5_init_67 : decode cX5_init 67 = .ok (.aload_n 0, 1) := by decide +kernel
theorem dX5_init_68 : decode cX5_init 68 = .ok (.new 31, 3) := by decide +kernel
theorem dX5_init_71 : decode cX5_init 71 = .ok (.dup, 1) := by decide +kernel
theorem dX5_init_72 : decode cX5_init 72 = .ok (.invokespecial 33, 3) := by decide +kernel
theorem dX5_init_75 : decode cX5_init 75 = .ok (.putfield 34, 3) := by decide +kernel
theorem dX5_init_78 : decode cX5_init 78 = .ok (.aload_n 0, 1) := by decide +kernel
theorem dX5_init_79 : decode cX5_init 79 = .ok (.bipush 6, 2) := by decide +kernel
theorem dX5_init_81 : decode cX5_init 81 = .ok (.newarray .int, 2) := by decide +kernel
theorem dX5_init_83 : decode cX5_init 83 = .ok (.putfield 38, 3) := by decide +kernel
theorem dX5_init_86 : decode cX5_init 86 = .ok (.aload_n 0, 1) := by decide +kernel
theorem dX5_init_87 : decode cX5_init 87 = .ok (.iconst 3, 1) := by decide +kernel
theorem dX5_init_88 : decode cX5_init 88 = .ok (.newarray .int, 2) := by decide +kernel
theorem dX5_init_90 : decode cX5_init 90 = .ok (.putfield 42, 3) := by decide +kernel
theorem dX5_init_93 : decode cX5_init 93 = .ok (.aload_n 0, 1) := by decide +kernel
theorem dX5_init_94 : decode cX5_init 94 = .ok (.lconst 0, 1) := by decide +kernel
theorem dX5_init_95 : decode cX5_init 95 = .ok (.putfield 45, 3) := by decide +kernel
theorem dX5_init_98 : decode cX5_init 98 = .ok (.aload_n 0, 1) := by decide +kernel
theorem dX5_init_99 : decode cX5_init 99 = .ok (.lconst 1, 1) := by decide +kernel
theorem dX5_init_100 : decode cX5_init 100 = .ok (.putfield 49, 3) := by decide +kernel
theorem dX5_init_103 : decode cX5_init 103 = .ok (.return_, 1) := by decide +kernel
set_option maxRecDepth 20000 in
theorem ggX5_table_X5_isSeat : GoodIn wsX5_table wsX5_isSeat := goodIn_r _ [6, 7, 8, 5, 9] (by decide +kernel) (by decide +kernel)
set_option maxRecDepth 20000 in
theorem gX5_table_X5_isSeat : GoodIn wsX5_table (va_wsS RX5 52 yX5_isSeat wsX5_isSeat) := goodIn_app (goodIn_of _ (by decide +kernel)) ggX5_table_X5_isSeat
set_option maxRecDepth 20000 in
theorem ggX5_table_X5_refuse : GoodIn wsX5_table wsX5_refuse := goodIn_r _ [13, 14, 7, 8, 5, 9, 49, 50, 51, 52, 53, 54, 55, 56, 57] (by decide +kernel) (by decide +kernel)
set_option maxRecDepth 20000 in
theorem gX5_table_X5_refuse : GoodIn wsX5_table (wsV RX5 56 RX5 yX5_refuse wsX5_refuse) := goodIn_app (goodIn_of _ (by decide +kernel)) ggX5_table_X5_refuse
set_option maxRecDepth 20000 in
theorem ggX5_table_X3_layAnew : GoodIn wsX5_table wsX3_layAnew := goodIn_r _ [18, 19, 20, 21, 22, 23, 61, 62, 63, 64, 65, 66, 67, 68, 69, 70] (by decide +kernel) (by decide +kernel)
set_option maxRecDepth 20000 in
theorem gX5_table_X3_layAnew_n67 : GoodIn wsX5_table (wsX3_layAnew) := ggX5_table_X3_layAnew
set_option maxRecDepth 20000 in
theorem ggX5_table_X2_beginWith : GoodIn wsX5_table wsX2_beginWith := goodIn_r _ [27, 28, 29, 30, 31, 16, 32, 33, 19, 20, 21, 22, 23, 34, 35, 36, 37, 38, 39, 40, 41, 42, 43, 44, 45, 46, 47, 48, 58, 59, 60, 71, 72, 61, 62, 63, 64, 65, 66, 67, 68, 69, 70, 73, 74, 75] (by decide +kernel) (by decide +kernel)
set_option maxRecDepth 20000 in
theorem gX5_table_X2_beginWith_n71 : GoodIn wsX5_table (wsX2_beginWith) := ggX5_table_X2_beginWith
theorem dX5_table_0 : decode cX5_table 0 = .ok (.iload_n 1, 1) := by decide +kernel
theorem dX5_table_1 : decode cX5_table 1 = .ok (.invokestatic 52, 3) := by decide +kernel
theorem dX5_table_4 : decode cX5_table 4 = .ok (.ifCond .ne 10, 3) := by decide +kernel
theorem dX5_table_7 : decode cX5_table 7 = .ok (.aload_n 0, 1) := by decide +kernel
theorem dX5_table_8 : decode cX5_table 8 = .ok (.bipush (-2), 2) := by decide +kernel
theorem dX5_table_10 : decode cX5_table 10 = .ok (.invokevirtual 56, 3) := by decide +kernel
theorem dX5_table_13 : decode cX5_table 13 = .ok (.ireturn, 1) := by decide +kernel
theorem dX5_table_14 : decode cX5_table 14 = .ok (.aload_n 0, 1) := by decide +kernel
theorem dX5_table_15 : decode cX5_table 15 = .ok (.getfield 10, 3) := by decide +kernel
theorem dX5_table_18 : decode cX5_table 18 = .ok (.getfield 60, 3) := by decide +kernel
theorem dX5_table_21 : decode cX5_table 21 = .ok (.getfield 63, 3) := by decide +kernel
theorem dX5_table_24 : decode cX5_table 24 = .ok (.istore_n 2, 1) := by decide +kernel
theorem dX5_table_25 : decode cX5_table 25 = .ok (.aload_n 0, 1) := by decide +kernel
theorem dX5_table_26 : decode cX5_table 26 = .ok (.getfield 34, 3) := by decide +kernel
theorem dX5_table_29 : decode cX5_table 29 = .ok (.iload_n 1, 1) := by decide +kernel
theorem dX5_table_30 : decode cX5_table 30 = .ok (.invokevirtual 67, 3) := by decide +kernel
theorem dX5_table_33 : decode cX5_table 33 = .ok (.aload_n 0, 1) := by decide +kernel
theorem dX5_table_34 : decode cX5_table 34 = .ok (.getfield 10, 3) := by decide +kernel
theorem dX5_table_37 : decode cX5_table 37 = .ok (.aload_n 0, 1) := by decide +kernel
theorem dX5_table_38 : decode cX5_table 38 = .ok (.getfield 34, 3) := by decide +kernel
theorem dX5_table_41 : decode cX5_table 41 = .ok (.invokevirtual 71, 3) := by decide +kernel
theorem dX5_table_44 : decode cX5_table 44 = .ok (.iload_n 2, 1) := by decide +kernel
theorem dX5_table_45 : decode cX5_table 45 = .ok (.ireturn, 1) := by decide +kernel
set_option maxRecDepth 20000 in
theorem ggX5_child_X5_within : GoodIn wsX5_child wsX5_within := goodIn_r _ [5] (by decide +kernel) (by decide +kernel)
set_option maxRecDepth 20000 in
theorem gX5_child_X5_within : GoodIn wsX5_child (va_wsS RX5 75 yX5_within wsX5_within) := goodIn_app (goodIn_of _ (by decide +kernel)) ggX5_child_X5_within
set_option maxRecDepth 20000 in
theorem ggX5_child_X5_isSeat : GoodIn wsX5_child wsX5_isSeat := goodIn_r _ [8, 2, 3, 4, 5] (by decide +kernel) (by decide +kernel)
set_option maxRecDepth 20000 in
theorem gX5_child_X5_isSeat : GoodIn wsX5_child (va_wsS RX5 52 yX5_isSeat wsX5_isSeat) := goodIn_app (goodIn_of _ (by decide +kernel)) ggX5_child_X5_isSeat
set_option maxRecDepth 20000 in
theorem ggX5_child_X5_refuse : GoodIn wsX5_child wsX5_refuse := goodIn_r _ [12, 13, 2, 3, 4, 5, 33, 34, 35, 36, 37, 38, 39, 40, 41] (by decide +kernel) (by decide +kernel)
set_option maxRecDepth 20000 in
theorem gX5_child_X5_refuse : GoodIn wsX5_child (wsV RX5 56 RX5 yX5_refuse wsX5_refuse) := goodIn_app (goodIn_of _ (by decide +kernel)) ggX5_child_X5_refuse
set_option maxRecDepth 20000 in
theorem ggX5_child_X3_childAt : GoodIn wsX5_child wsX3_childAt := goodIn_r _ [17, 18, 19, 45, 46, 47, 48, 49, 50, 51, 52, 53, 54] (by decide +kernel) (by decide +kernel)
set_option maxRecDepth 20000 in
theorem gX5_child_X3_childAt_n79 : GoodIn wsX5_child (wsX3_childAt) := ggX5_child_X3_childAt
set_option maxRecDepth 20000 in
theorem ggX5_child_X1_empty : GoodIn wsX5_child wsX1_empty := goodIn_r _ [23, 24, 25, 55, 56, 57] (by decide +kernel) (by decide +kernel)
set_option maxRecDepth 20000 in
theorem gX5_child_X1_empty_n86 : GoodIn wsX5_child (wsX1_empty) := ggX5_child_X1_empty
set_option maxRecDepth 20000 in
theorem ggX5_child_X3_addChild : GoodIn wsX5_child wsX3_addChild := goodIn_r _ [28, 18, 29, 19, 30, 31, 32, 45, 46, 47, 48, 49, 50, 51, 52, 53, 54] (by decide +kernel) (by decide +kernel)
set_option maxRecDepth 20000 in
theorem gX5_child_X3_addChild_n91 : GoodIn wsX5_child (wsX3_addChild) := ggX5_child_X3_addChild
theorem dX5_child_0 : decode cX5_child 0 = .ok (.iload_n 1, 1) := by decide +kernel
theorem dX5_child_1 : decode cX5_child 1 = .ok (.iconst 0, 1) := by decide +kernel
theorem dX5_child_2 : decode cX5_child 2 = .ok (.iconst 5, 1) := by decide +kernel
theorem dX5_child_3 : decode cX5_child 3 = .ok (.invokestatic 75, 3) := by decide +kernel
theorem dX5_child_6 : decode cX5_child 6 = .ok (.ifCond .eq 35, 3) := by decide +kernel
theorem dX5_child_9 : decode cX5_child 9 = .ok (.iload_n 2, 1) := by decide +kernel
theorem dX5_child_10 : decode cX5_child 10 = .ok (.invokestatic 52, 3) := by decide +kernel
theorem dX5_child_13 : decode cX5_child 13 = .ok (.ifCond .eq 28, 3) := by decide +kernel
theorem dX5_child_16 : decode cX5_child 16 = .ok (.iload_n 3, 1) := by decide +kernel
theorem dX5_child_17 : decode cX5_child 17 = .ok (.iconst 0, 1) := by decide +kernel
theorem dX5_child_18 : decode cX5_child 18 = .ok (.bipush 20, 2) := by decide +kernel
theorem dX5_child_20 : decode cX5_child 20 = .ok (.invokestatic 75, 3) := by decide +kernel
theorem dX5_child_23 : decode cX5_child 23 = .ok (.ifCond .eq 18, 3) := by decide +kernel
theorem dX5_child_26 : decode cX5_child 26 = .ok (.iload 4, 2) := by decide +kernel
theorem dX5_child_28 : decode cX5_child 28 = .ok (.iconst 0, 1) := by decide +kernel
theorem dX5_child_29 : decode cX5_child 29 = .ok (.bipush 30, 2) := by decide +kernel
theorem dX5_child_31 : decode cX5_child 31 = .ok (.invokestatic 75, 3) := by decide +kernel
theorem dX5_child_34 : decode cX5_child 34 = .ok (.ifCond .eq 7, 3) := by decide +kernel
theorem dX5_child_37 : decode cX5_child 37 = .ok (.iconst 1, 1) := by decide +kernel
theorem dX5_child_38 : decode cX5_child 38 = .ok (.goto 4, 3) := by decide +kernel
theorem dX5_child_41 : decode cX5_child 41 = .ok (.iconst 0, 1) := by decide +kernel
theorem dX5_child_42 : decode cX5_child 42 = .ok (.istore 5, 2) := by decide +kernel
theorem dX5_child_44 : decode cX5_child 44 = .ok (.iload 5, 2) := by decide +kernel
theorem dX5_child_46 : decode cX5_child 46 = .ok (.ifCond .ne 10, 3) := by decide +kernel
theorem dX5_child_49 : decode cX5_child 49 = .ok (.aload_n 0, 1) := by decide +kernel
theorem dX5_child_50 : decode cX5_child 50 = .ok (.bipush (-2), 2) := by decide +kernel
theorem dX5_child_52 : decode cX5_child 52 = .ok (.invokevirtual 56, 3) := by decide +kernel
theorem dX5_child_55 : decode cX5_child 55 = .ok (.ireturn, 1) := by decide +kernel
theorem dX5_child_56 : decode cX5_child 56 = .ok (.aload_n 0, 1) := by decide +kernel
theorem dX5_child_57 : decode cX5_child 57 = .ok (.getfield 10, 3) := by decide +kernel
theorem dX5_child_60 : decode cX5_child 60 = .ok (.getfield 60, 3) := by decide +kernel
theorem dX5_child_63 : decode cX5_child 63 = .ok (.iload_n 2, 1) := by decide +kernel
theorem dX5_child_64 : decode cX5_child 64 = .ok (.invokevirtual 79, 3) := by decide +kernel
theorem dX5_child_67 : decode cX5_child 67 = .ok (.iconst (-1), 1) := by decide +kernel
theorem dX5_child_68 : decode cX5_child 68 = .ok (.if_icmp .eq 10, 3) := by decide +kernel
theorem dX5_child_71 : decode cX5_child 71 = .ok (.aload_n 0, 1) := by decide +kernel
theorem dX5_child_72 : decode cX5_child 72 = .ok (.bipush (-3), 2) := by decide +kernel
theorem dX5_child_74 : decode cX5_child 74 = .ok (.invokevirtual 56, 3) := by decide +kernel
theorem dX5_child_77 : decode cX5_child 77 = .ok (.ireturn, 1) := by decide +kernel
theorem dX5_child_78 : decode cX5_child 78 = .ok (.aload_n 0, 1) := by decide +kernel
theorem dX5_child_79 : decode cX5_child 79 = .ok (.getfield 10, 3) := by decide +kernel
theorem dX5_child_82 : decode cX5_child 82 = .ok (.getfield 60, 3) := by decide +kernel
theorem dX5_child_85 : decode cX5_child 85 = .ok (.getfield 63, 3) := by decide +kernel
theorem dX5_child_88 : decode cX5_child 88 = .ok (.bipush 6, 2) := by decide +kernel
theorem dX5_child_90 : decode cX5_child 90 = .ok (.if_icmp .lt 10, 3) := by decide +kernel
theorem dX5_child_93 : decode cX5_child 93 = .ok (.aload_n 0, 1) := by decide +kernel
theorem dX5_child_94 : decode cX5_child 94 = .ok (.bipush (-4), 2) := by decide +kernel
theorem dX5_child_96 : decode cX5_child 96 = .ok (.invokevirtual 56, 3) := by decide +kernel
theorem dX5_child_99 : decode cX5_child 99 = .ok (.ireturn, 1) := by decide +kernel
theorem dX5_child_100 : decode cX5_child 100 = .ok (.aload_n 0, 1) := by decide +kernel
theorem dX5_child_101 : decode cX5_child 101 = .ok (.getfield 10, 3) := by decide +kernel
theorem dX5_child_104 : decode cX5_child 104 = .ok (.getfield 82, 3) := by decide +kernel
theorem dX5_child_107 : decode cX5_child 107 = .ok (.invokevirtual 86, 3) := by decide +kernel
theorem dX5_child_110 : decode cX5_child 110 = .ok (.aload_n 0, 1) := by decide +kernel
theorem dX5_child_111 : decode cX5_child 111 = .ok (.getfield 10, 3) := by decide +kernel
theorem dX5_child_114 : decode cX5_child 114 = .ok (.getfield 60, 3) := by decide +kernel
theorem dX5_child_117 : decode cX5_child 117 = .ok (.iload_n 1, 1) := by decide +kernel
theorem dX5_child_118 : decode cX5_child 118 = .ok (.iload_n 2, 1) := by decide +kernel
theorem dX5_child_119 : decode cX5_child 119 = .ok (.iload_n 3, 1) := by decide +kernel
theorem dX5_child_120 : decode cX5_child 120 = .ok (.iload 4, 2) := by decide +kernel
theorem dX5_child_122 : decode cX5_child 122 = .ok (.invokevirtual 91, 3) := by decide +kernel
theorem dX5_child_125 : decode cX5_child 125 = .ok (.ireturn, 1) := by decide +kernel
set_option maxRecDepth 20000 in
theorem ggX5_type_X5_within : GoodIn wsX5_type wsX5_within := goodIn_r _ [5] (by decide +kernel) (by decide +kernel)
set_option maxRecDepth 20000 in
theorem gX5_type_X5_within : GoodIn wsX5_type (va_wsS RX5 75 yX5_within wsX5_within) := goodIn_app (goodIn_of _ (by decide +kernel)) ggX5_type_X5_within
set_option maxRecDepth 20000 in
theorem ggX5_type_X5_refuse : GoodIn wsX5_type wsX5_refuse := goodIn_r _ [9, 10, 2, 3, 4, 5, 17, 18, 19, 20, 21, 22, 23, 24, 25] (by decide +kernel) (by decide +kernel)
set_option maxRecDepth 20000 in
theorem gX5_type_X5_refuse : GoodIn wsX5_type (wsV RX5 56 RX5 yX5_refuse wsX5_refuse) := goodIn_app (goodIn_of _ (by decide +kernel)) ggX5_type_X5_refuse
set_option maxRecDepth 20000 in
theorem ggX5_type_X4_append : GoodIn wsX5_type wsX4_append := goodIn_r _ [14, 15, 16, 26, 27, 28, 29, 30, 31] (by decide +kernel) (by decide +kernel)
set_option maxRecDepth 20000 in
theorem gX5_type_X4_append_n98 : GoodIn wsX5_type (wsX4_append) := ggX5_type_X4_append
theorem dX5_type_0 : decode cX5_type 0 = .ok (.iload_n 1, 1) := by decide +kernel
theorem dX5_type_1 : decode cX5_type 1 = .ok (.iconst 0, 1) := by decide +kernel
theorem dX5_type_2 : decode cX5_type 2 = .ok (.bipush 127, 2) := by decide +kernel
theorem dX5_type_4 : decode cX5_type 4 = .ok (.invokestatic 75, 3) := by decide +kernel
theorem dX5_type_7 : decode cX5_type 7 = .ok (.ifCond .ne 10, 3) := by decide +kernel
theorem dX5_type_10 : decode cX5_type 10 = .ok (.aload_n 0, 1) := by decide +kernel
theorem dX5_type_11 : decode cX5_type 11 = .ok (.bipush (-2), 2) := by decide +kernel
theorem dX5_type_13 : decode cX5_type 13 = .ok (.invokevirtual 56, 3) := by decide +kernel
theorem dX5_type_16 : decode cX5_type 16 = .ok (.ireturn, 1) := by decide +kernel
theorem dX5_type_17 : decode cX5_type 17 = .ok (.aload_n 0, 1) := by decide +kernel
theorem dX5_type_18 : decode cX5_type 18 = .ok (.getfield 27, 3) := by decide +kernel
theorem dX5_type_21 : decode cX5_type 21 = .ok (.getfield 95, 3) := by decide +kernel
theorem dX5_type_24 : decode cX5_type 24 = .ok (.sipush 150, 3) := by decide +kernel
theorem dX5_type_27 : decode cX5_type 27 = .ok (.if_icmp .lt 10, 3) := by decide +kernel
theorem dX5_type_30 : decode cX5_type 30 = .ok (.aload_n 0, 1) := by decide +kernel
theorem dX5_type_31 : decode cX5_type 31 = .ok (.bipush (-4), 2) := by decide +kernel
theorem dX5_type_33 : decode cX5_type 33 = .ok (.invokevirtual 56, 3) := by decide +kernel
theorem dX5_type_36 : decode cX5_type 36 = .ok (.ireturn, 1) := by decide +kernel
theorem dX5_type_37 : decode cX5_type 37 = .ok (.aload_n 0, 1) := by decide +kernel
theorem dX5_type_38 : decode cX5_type 38 = .ok (.getfield 27, 3) := by decide +kernel
theorem dX5_type_41 : decode cX5_type 41 = .ok (.iload_n 1, 1) := by decide +kernel
theorem dX5_type_42 : decode cX5_type 42 = .ok (.invokevirtual 98, 3) := by decide +kernel
theorem dX5_type_45 : decode cX5_type 45 = .ok (.ireturn, 1) := by decide +kernel
theorem dX5_clear_0 : decode cX5_clear 0 = .ok (.aload_n 0, 1) := by decide +kernel
theorem dX5_clear_1 : decode cX5_clear 1 = .ok (.getfield 27, 3) := by decide +kernel
theorem dX5_clear_4 : decode cX5_clear 4 = .ok (.getfield 95, 3) := by decide +kernel
theorem dX5_clear_7 : decode cX5_clear 7 = .ok (.istore_n 1, 1) := by decide +kernel
theorem dX5_clear_8 : decode cX5_clear 8 = .ok (.aload_n 0, 1) := by decide +kernel
theorem dX5_clear_9 : decode cX5_clear 9 = .ok (.getfield 27, 3) := by decide +kernel
theorem dX5_clear_12 : decode cX5_clear 12 = .ok (.iconst 0, 1) := by decide +kernel
theorem dX5_clear_13 : decode cX5_clear 13 = .ok (.putfield 95, 3) := by decide +kernel
theorem dX5_clear_16 : decode cX5_clear 16 = .ok (.iload_n 1, 1) := by decide +kernel
theorem dX5_clear_17 : decode cX5_clear 17 = .ok (.ireturn, 1) := by decide +kernel
set_option maxRecDepth 20000 in
theorem ggX5_read_X4_readInto : GoodIn wsX5_read wsX4_readInto := goodIn_r _ [7, 8, 9, 10, 11, 12, 13, 14, 15, 16, 17, 18, 19, 20, 21, 22, 5, 23, 24, 25, 26, 27, 28, 29, 30, 31, 32, 33, 34, 35, 36, 37, 38, 39, 40, 41, 42, 43, 44, 45, 46, 47, 48, 49, 50, 51, 52, 53, 54, 55, 56, 57, 58, 59, 60, 61, 62, 63, 64, 65, 66, 67, 68, 69, 70, 71, 72, 73, 74, 75, 76, 77, 78, 79, 80, 81, 82, 83, 84, 85, 86, 87, 88, 89, 90, 91, 92, 93, 94, 95, 96, 97, 98, 99, 100, 101, 102, 103, 104, 105, 106, 107, 108, 109, 110, 111, 112, 113, 114, 115, 116, 117, 118, 119, 120, 121, 122, 123, 124, 125, 126, 127, 128, 129, 130, 131, 161, 162, 163, 164, 165, 166, 167, 168, 169, 170, 171, 172, 173, 174, 175, 176] (by decide +kernel) (by decide +kernel)
set_option maxRecDepth 20000 in
theorem gX5_read_X4_readInto_n101 : GoodIn wsX5_read (wsX4_readInto) := ggX5_read_X4_readInto
set_option maxRecDepth 20000 in
theorem ggX5_read_X2_beginWith : GoodIn wsX5_read wsX2_beginWith := goodIn_r _ [135, 136, 137, 138, 139, 12, 140, 141, 15, 16, 17, 18, 19, 117, 142, 143, 144, 145, 113, 118, 119, 120, 146, 147, 148, 149, 150, 151, 177, 178, 179, 180, 181, 167, 168, 169, 170, 171, 172, 173, 174, 175, 176, 182, 183, 184] (by decide +kernel) (by decide +kernel)
set_option maxRecDepth 20000 in
theorem gX5_read_X2_beginWith_n71 : GoodIn wsX5_read (wsX2_beginWith) := ggX5_read_X2_beginWith
theorem dX5_read_0 : decode cX5_read 0 = .ok (.aload_n 0, 1) := by decide +kernel
theorem dX5_read_1 : decode cX5_read 1 = .ok (.getfield 27, 3) := by decide +kernel
theorem dX5_read_4 : decode cX5_read 4 = .ok (.aload_n 0, 1) := by decide +kernel
theorem dX5_read_5 : decode cX5_read 5 = .ok (.getfield 34, 3) := by decide +kernel
theorem dX5_read_8 : decode cX5_read 8 = .ok (.invokevirtual 101, 3) := by decide +kernel
theorem dX5_read_11 : decode cX5_read 11 = .ok (.istore_n 1, 1) := by decide +kernel
theorem dX5_read_12 : decode cX5_read 12 = .ok (.iload_n 1, 1) := by decide +kernel
theorem dX5_read_13 : decode cX5_read 13 = .ok (.ifCond .le 14, 3) := by decide +kernel
theorem dX5_read_16 : decode cX5_read 16 = .ok (.aload_n 0, 1) := by decide +kernel
theorem dX5_read_17 : decode cX5_read 17 = .ok (.getfield 10, 3) := by decide +kernel
theorem dX5_read_20 : decode cX5_read 20 = .ok (.aload_n 0, 1) := by decide +kernel
theorem dX5_read_21 : decode cX5_read 21 = .ok (.getfield 34, 3) := by decide +kernel
theorem dX5_read_24 : decode cX5_read 24 = .ok (.invokevirtual 71, 3) := by decide +kernel
theorem dX5_read_27 : decode cX5_read 27 = .ok (.iload_n 1, 1) := by decide +kernel
theorem dX5_read_28 : decode cX5_read 28 = .ok (.ireturn, 1) := by decide +kernel
set_option maxRecDepth 20000 in
theorem ggX5_minute_X5_within : GoodIn wsX5_minute wsX5_within := goodIn_r _ [9] (by decide +kernel) (by decide +kernel)
set_option maxRecDepth 20000 in
theorem gX5_minute_X5_within : GoodIn wsX5_minute (va_wsS RX5 75 yX5_within wsX5_within) := goodIn_app (goodIn_of _ (by decide +kernel)) ggX5_minute_X5_within
set_option maxRecDepth 20000 in
theorem ggX5_minute_X5_refuse : GoodIn wsX5_minute wsX5_refuse := goodIn_r _ [13, 14, 6, 7, 8, 9, 98, 99, 100, 101, 102, 103, 104, 105, 106] (by decide +kernel) (by decide +kernel)
set_option maxRecDepth 20000 in
theorem gX5_minute_X5_refuse : GoodIn wsX5_minute (wsV RX5 56 RX5 yX5_refuse wsX5_refuse) := goodIn_app (goodIn_of _ (by decide +kernel)) ggX5_minute_X5_refuse
set_option maxRecDepth 20000 in
theorem ggX5_minute_X1_keep : GoodIn wsX5_minute wsX1_keep := goodIn_r _ [18, 19, 20, 21, 22, 23, 24, 25, 26, 27, 28, 29, 30, 31, 32, 33, 34, 35, 36, 37, 38, 39, 120, 121, 122, 110, 111, 112, 113, 114, 115, 116, 117, 118, 119] (by decide +kernel) (by decide +kernel)
set_option maxRecDepth 20000 in
theorem gX5_minute_X1_keep_n105 : GoodIn wsX5_minute (wsX1_keep) := ggX5_minute_X1_keep
set_option maxRecDepth 20000 in
theorem ggX5_minute_X3_passMinutes : GoodIn wsX5_minute wsX3_passMinutes := goodIn_r _ [42, 43, 44, 45, 23, 46, 30, 39, 38, 47, 48, 4, 49, 50, 3, 5, 29, 28, 27, 51, 52, 53, 54, 36, 55, 56, 57, 58, 59, 60, 61, 62, 63, 64, 65, 66, 67, 68, 69, 70, 71, 26, 72, 73, 74, 75, 31, 37, 76, 8, 77, 78, 79, 80, 81, 82, 83, 84, 85, 86, 87, 88, 89, 90, 91, 92, 93, 94, 95, 96, 97, 110, 111, 112, 113, 114, 115, 116, 117, 118, 119] (by decide +kernel) (by decide +kernel)
set_option maxRecDepth 20000 in
theorem gX5_minute_X3_passMinutes_n117 : GoodIn wsX5_minute (wsX3_passMinutes) := ggX5_minute_X3_passMinutes
theorem dX5_minute_0 : decode cX5_minute 0 = .ok (.iload_n 1, 1) := by decide +kernel
theorem dX5_minute_1 : decode cX5_minute 1 = .ok (.iconst 1, 1) := by decide +kernel
theorem dX5_minute_2 : decode cX5_minute 2 = .ok (.bipush 60, 2) := by decide +kernel
theorem dX5_minute_4 : decode cX5_minute 4 = .ok (.invokestatic 75, 3) := by decide +kernel
theorem dX5_minute_7 : decode cX5_minute 7 = .ok (.ifCond .ne 10, 3) := by decide +kernel
theorem dX5_minute_10 : decode cX5_minute 10 = .ok (.aload_n 0, 1) := by decide +kernel
theorem dX5_minute_11 : decode cX5_minute 11 = .ok (.bipush (-2), 2) := by decide +kernel
theorem dX5_minute_13 : decode cX5_minute 13 = .ok (.invokevirtual 56, 3) := by decide +kernel
theorem dX5_minute_16 : decode cX5_minute 16 = .ok (.ireturn, 1) := by decide +kernel
theorem dX5_minute_17 : decode cX5_minute 17 = .ok (.aload_n 0, 1) := by decide +kernel
theorem dX5_minute_18 : decode cX5_minute 18 = .ok (.getfield 10, 3) := by decide +kernel
theorem dX5_minute_21 : decode cX5_minute 21 = .ok (.getfield 82, 3) := by decide +kernel
theorem dX5_minute_24 : decode cX5_minute 24 = .ok (.aload_n 0, 1) := by decide +kernel
theorem dX5_minute_25 : decode cX5_minute 25 = .ok (.getfield 10, 3) := by decide +kernel
theorem dX5_minute_28 : decode cX5_minute 28 = .ok (.getfield 60, 3) := by decide +kernel
theorem dX5_minute_31 : decode cX5_minute 31 = .ok (.invokevirtual 105, 3) := by decide +kernel
theorem dX5_minute_34 : decode cX5_minute 34 = .ok (.aload_n 0, 1) := by decide +kernel
theorem dX5_minute_35 : decode cX5_minute 35 = .ok (.getfield 10, 3) := by decide +kernel
theorem dX5_minute_38 : decode cX5_minute 38 = .ok (.getfield 60, 3) := by decide +kernel
theorem dX5_minute_41 : decode cX5_minute 41 = .ok (.iload_n 1, 1) := by decide +kernel
theorem dX5_minute_42 : decode cX5_minute 42 = .ok (.sipush 999, 3) := by decide +kernel
theorem dX5_minute_45 : decode cX5_minute 45 = .ok (.aload_n 0, 1) := by decide +kernel
theorem dX5_minute_46 : decode cX5_minute 46 = .ok (.getfield 10, 3) := by decide +kernel
theorem dX5_minute_49 : decode cX5_minute 49 = .ok (.getfield 60, 3) := by decide +kernel
theorem dX5_minute_52 : decode cX5_minute 52 = .ok (.getfield 108, 3) := by decide +kernel
theorem dX5_minute_55 : decode cX5_minute 55 = .ok (.isub, 1) := by decide +kernel
theorem dX5_minute_56 : decode cX5_minute 56 = .ok (.invokestatic 111, 3) := by decide +kernel
theorem dX5_minute_59 : decode cX5_minute 59 = .ok (.invokevirtual 117, 3) := by decide +kernel
theorem dX5_minute_62 : decode cX5_minute 62 = .ok (.ireturn, 1) := by decide +kernel
set_option maxRecDepth 20000 in
theorem ggX5_carrot_X5_isChild : GoodIn wsX5_carrot wsX5_isChild := goodIn_r _ [6, 1, 7, 8, 5, 9, 47, 48, 49, 50, 51, 52, 53, 54, 55, 56, 57, 58, 59, 60, 61, 62, 63, 64, 65, 66, 67, 68] (by decide +kernel) (by decide +kernel)
set_option maxRecDepth 20000 in
theorem gX5_carrot_X5_isChild : GoodIn wsX5_carrot (wsV RX5 120 RX5 yX5_isChild wsX5_isChild) := goodIn_app (goodIn_of _ (by decide +kernel)) ggX5_carrot_X5_isChild
set_option maxRecDepth 20000 in
theorem ggX5_carrot_X5_refuse : GoodIn wsX5_carrot wsX5_refuse := goodIn_r _ [13, 14, 7, 8, 5, 9, 47, 48, 49, 50, 51, 52, 53, 54, 55] (by decide +kernel) (by decide +kernel)
set_option maxRecDepth 20000 in
theorem gX5_carrot_X5_refuse : GoodIn wsX5_carrot (wsV RX5 56 RX5 yX5_refuse wsX5_refuse) := goodIn_app (goodIn_of _ (by decide +kernel)) ggX5_carrot_X5_refuse
set_option maxRecDepth 20000 in
theorem ggX5_carrot_X1_keep : GoodIn wsX5_carrot wsX1_keep := goodIn_r _ [18, 19, 20, 21, 22, 23, 24, 25, 26, 27, 28, 29, 30, 31, 32, 33, 34, 35, 36, 37, 38, 39, 69, 70, 71, 59, 60, 61, 62, 63, 64, 65, 66, 67, 68] (by decide +kernel) (by decide +kernel)
