def wsL_law0_r1 : List Cond := [Cond.classLink RL 8 RX8, Cond.instantiable RX8 8, Cond.initialized RX8, Cond.classLink RL 143 RX9, Cond.instantiable RX9 17, Cond.initialized RX9, Cond.arrayClass .long, Cond.arrayClass .double, Cond.methodLink RL 142 yX8_init, Cond.instanceMethod yX8_init, Cond.code yX8_init cX8_init 1 none, Cond.methodLink RX8 1 objectInit, Cond.instanceMethod objectInit, Cond.code objectInit ⟨#[0xb1]⟩ 1 none, Cond.classLink RX8 7 RX5, Cond.instantiable RX5 8, Cond.initialized RX5, Cond.fieldLink RX8 10 "Queryschool" "teacher" "LQueryschool$Teacher;", Cond.fieldLink RX8 20 "Queryschool" "known" "LQueryschool$Concepts;", Cond.classLink RX8 21 RX6, Cond.instantiable RX6 3, Cond.initialized RX6, Cond.fieldLink RX8 24 "Queryschool" "trees" "LQueryschool$Trees;", Cond.classLink RX8 28 RX2]
def wsL_law0_r2 : List Cond := [Cond.instantiable RX2 4, Cond.initialized RX2, Cond.fieldLink RX8 31 "Queryschool" "crowd" "LQueryschool$Crowd;", Cond.classLink RX8 35 RX3, Cond.instantiable RX3 3, Cond.initialized RX3, Cond.fieldLink RX8 38 "Queryschool" "machine" "LQueryschool$Machine;", Cond.classLink RX8 42 RX7, Cond.instantiable RX7 6, Cond.initialized RX7, Cond.fieldLink RX8 45 "Queryschool" "words" "LQueryschool$Words;", Cond.classLink RX8 49 RX0, Cond.instantiable RX0 3, Cond.initialized RX0, Cond.fieldLink RX8 52 "Queryschool" "codes" "LQueryschool$Codes;", Cond.classLink RX8 56 RX4, Cond.instantiable RX4 3, Cond.initialized RX4, Cond.fieldLink RX8 59 "Queryschool" "queue" "LQueryschool$Queue;", Cond.instanceMethod yX5_init, Cond.code yX5_init cX5_init 1 none, Cond.methodLink RX5 3 objectInit, Cond.classLink RX5 9 RX1, Cond.instantiable RX1 4]
def wsL_law0_r3 : List Cond := [Cond.initialized RX1, Cond.fieldLink RX5 12 "Queryschool$Teacher" "known" "LQueryschool$Concepts;", Cond.arrayClass .int, Cond.fieldLink RX5 18 "Queryschool$Teacher" "conflicts" "[I", Cond.fieldLink RX5 22 "Queryschool$Teacher" "kind" "C", Cond.fieldLink RX5 26 "Queryschool$Teacher" "z" "I", Cond.instanceMethod yX1_init, Cond.code yX1_init cX1_init 1 none, Cond.methodLink RX1 3 objectInit, Cond.fieldLink RX1 9 "Queryschool$Concepts" "sets" "[I", Cond.fieldLink RX1 15 "Queryschool$Concepts" "holders" "[I", Cond.fieldLink RX1 18 "Queryschool$Concepts" "points" "I", Cond.instanceMethod yX6_init, Cond.code yX6_init cX6_init 1 none, Cond.methodLink RX6 1 objectInit, Cond.fieldLink RX6 9 "Queryschool$Trees" "groups" "[I", Cond.fieldLink RX6 13 "Queryschool$Trees" "worths" "[I", Cond.instanceMethod yX2_init, Cond.code yX2_init cX2_init 1 none, Cond.methodLink RX2 3 objectInit, Cond.fieldLink RX2 9 "Queryschool$Crowd" "weights" "[I", Cond.fieldLink RX2 15 "Queryschool$Crowd" "wrongs" "[I", Cond.instanceMethod yX3_init, Cond.code yX3_init cX3_init 1 none]
def wsL_law0_r4 : List Cond := [Cond.methodLink RX3 3 objectInit, Cond.fieldLink RX3 9 "Queryschool$Machine" "moves" "[I", Cond.instanceMethod yX7_init, Cond.code yX7_init cX7_init 1 none, Cond.methodLink RX7 3 objectInit, Cond.fieldLink RX7 9 "Queryschool$Words" "lengths" "[I", Cond.fieldLink RX7 15 "Queryschool$Words" "letters" "[I", Cond.fieldLink RX7 18 "Queryschool$Words" "trial" "[I", Cond.fieldLink RX7 21 "Queryschool$Words" "trialStates" "I", Cond.instanceMethod yX0_init, Cond.code yX0_init cX0_init 1 none, Cond.methodLink RX0 1 objectInit, Cond.constantLong RX0 7 (-1), Cond.fieldLink RX0 9 "Queryschool$Codes" "left" "J", Cond.instanceMethod yX4_init, Cond.code yX4_init cX4_init 1 none, Cond.methodLink RX4 3 objectInit, Cond.fieldLink RX4 9 "Queryschool$Queue" "firsts" "[I", Cond.fieldLink RX4 15 "Queryschool$Queue" "beginnings" "[I", Cond.fieldLink RX4 18 "Queryschool$Queue" "count" "I", Cond.methodLink RL 145 yX9_init, Cond.instanceMethod yX9_init, Cond.code yX9_init cX9_init 1 none, Cond.methodLink RX9 1 objectInit]
def wsL_law0_r5 : List Cond := [Cond.classLink RX9 7 RJx4a65c, Cond.instantiable RJx4a65c 3, Cond.initialized RJx4a65c, Cond.fieldLink RX9 10 "QueryschoolModel" "concepts" "Ljava/util/List;", Cond.fieldLink RX9 16 "QueryschoolModel" "points" "I", Cond.fieldLink RX9 20 "QueryschoolModel" "z" "I", Cond.fieldLink RX9 23 "QueryschoolModel" "teacher" "C", Cond.fieldLink RX9 27 "QueryschoolModel" "experts" "Ljava/util/List;", Cond.fieldLink RX9 30 "QueryschoolModel" "states" "Ljava/util/List;", Cond.fieldLink RX9 33 "QueryschoolModel" "words" "Ljava/util/List;", Cond.fieldLink RX9 36 "QueryschoolModel" "hints" "Ljava/util/List;", Cond.fieldLink RX9 39 "QueryschoolModel" "things" "I", Cond.classLink RX9 42 "[[Z", Cond.arrayClass .boolean, Cond.fieldLink RX9 44 "QueryschoolModel" "isAhead" "[[Z", Cond.methodLink RX9 9 yJx4a65c_init_da8c8, Cond.instanceMethod yJx4a65c_init_da8c8, Cond.code yJx4a65c_init_da8c8 cJx4a65c_init_da8c8 1 none, Cond.fieldLink RJx4a65c 39 "java/util/ArrayList" "DEFAULTCAPACITY_EMPTY_ELEMENTDATA" "[Ljava/lang/Object;", Cond.fieldLink RJx4a65c 9 "java/util/ArrayList" "elementData" "[Ljava/lang/Object;", Cond.methodLink RJx4a65c 1 yJxc12de_init_da8c8, Cond.instanceMethod yJxc12de_init_da8c8, Cond.initialized RJxc12de, Cond.code yJxc12de_init_da8c8 cJxc12de_init_da8c8 1 none]
def wsL_law0_r6 : List Cond := [Cond.fieldLink RJxc12de 7 "java/util/AbstractList" "modCount" "I", Cond.methodLink RJxc12de 1 yJxa1e45_init_da8c8, Cond.instanceMethod yJxa1e45_init_da8c8, Cond.initialized RJxa1e45, Cond.code yJxa1e45_init_da8c8 cJxa1e45_init_da8c8 1 none, Cond.methodLink RJxa1e45 1 objectInit, Cond.methodLink RL 146 yL_points, Cond.static yL_points, Cond.initialized RL, Cond.codeWith yL_points cL_points 4 (some .int) [(0, 9, 12, 13)], Cond.classLink RL 13 "java/lang/IllegalArgumentException", Cond.methodLink RL 7 yX8_points, Cond.instanceMethod yX8_points, Cond.selects RX8 yX8_points yX8_points, Cond.code yX8_points cX8_points 3 (some .int), Cond.classLink RX8 63 "java/lang/IllegalArgumentException", Cond.initialized "java/lang/IllegalArgumentException", Cond.methodLink RX8 76 yX1_startAnew, Cond.instanceMethod yX1_startAnew, Cond.selects RX1 yX1_startAnew yX1_startAnew, Cond.code yX1_startAnew cX1_startAnew 3 none, Cond.fieldLink RX1 22 "Queryschool$Concepts" "count" "I", Cond.static yX8_put, Cond.code yX8_put cX8_put 3 none]
def wsL_law0_r7 : List Cond := [Cond.methodLink RX8 80 yX5_leave, Cond.instanceMethod yX5_leave, Cond.selects RX5 yX5_leave yX5_leave, Cond.code yX5_leave cX5_leave 1 none, Cond.methodLink RX5 30 yX5_come, Cond.instanceMethod yX5_come, Cond.selects RX5 yX5_come yX5_come, Cond.code yX5_come cX5_come 5 none, Cond.fieldLink RX5 34 "Queryschool$Teacher" "hidden" "I", Cond.fieldLink RX5 37 "Queryschool$Teacher" "budget" "I", Cond.fieldLink RX5 40 "Queryschool$Teacher" "lies" "I", Cond.fieldLink RX5 43 "Queryschool$Teacher" "given" "I", Cond.methodLink RL 151 yX9_points, Cond.instanceMethod yX9_points, Cond.selects RX9 yX9_points yX9_points, Cond.code yX9_points cX9_points 3 (some .int), Cond.constantLong RX9 60 (6), Cond.fieldLink RX9 69 "QueryschoolModel" "answers" "I", Cond.methodLink RX9 56 yX9_isBetween, Cond.static yX9_isBetween, Cond.code yX9_isBetween cX9_isBetween 6 (some .boolean), Cond.methodLink RX9 62 yX9_isWrong, Cond.instanceMethod yX9_isWrong, Cond.selects RX9 yX9_isWrong yX9_isWrong]
def wsL_law0_r8 : List Cond := [Cond.code yX9_isWrong cX9_isWrong 2 (some .boolean), Cond.fieldLink RX9 47 "QueryschoolModel" "thrown" "I", Cond.methodLink RX9 50 ⟨"java/util/List", "size", "()I"⟩, Cond.selects RJx4a65c ⟨"java/util/List", "size", "()I"⟩ yJx4a65c_size_8abf5, Cond.instanceMethod yJx4a65c_size_8abf5, Cond.code yJx4a65c_size_8abf5 cJx4a65c_size_8abf5 1 (some .int), Cond.fieldLink RJx4a65c 48 "java/util/ArrayList" "size" "I", Cond.methodLink RX9 66 ⟨"java/util/List", "clear", "()V"⟩, Cond.selects RJx4a65c ⟨"java/util/List", "clear", "()V"⟩ yJx4a65c_clear_da8c8, Cond.instanceMethod yJx4a65c_clear_da8c8, Cond.code yJx4a65c_clear_da8c8 cJx4a65c_clear_da8c8 4 none, Cond.fieldLink RJx4a65c 63 "java/util/ArrayList" "modCount" "I", Cond.sameField "java/util/ArrayList" "java/util/AbstractList" "modCount" "I", Cond.methodLink RL 152 yX9_thrown, Cond.instanceMethod yX9_thrown, Cond.selects RX9 yX9_thrown yX9_thrown, Cond.code yX9_thrown cX9_thrown 1 (some .int), Cond.methodLink RL 155 yL_concept, Cond.static yL_concept, Cond.codeWith yL_concept cL_concept 4 (some .int) [(0, 9, 12, 13), (0, 9, 15, 18), (0, 9, 18, 20)], Cond.classLink RL 18 "java/lang/UnsupportedOperationException", Cond.classLink RL 20 "java/lang/IllegalStateException", Cond.methodLink RL 15 yX8_concept, Cond.instanceMethod yX8_concept]
def wsL_law0_r9 : List Cond := [Cond.selects RX8 yX8_concept yX8_concept, Cond.code yX8_concept cX8_concept 2 (some .int), Cond.classLink RX8 96 "java/lang/UnsupportedOperationException", Cond.initialized "java/lang/UnsupportedOperationException", Cond.classLink RX8 101 "java/lang/IllegalStateException", Cond.initialized "java/lang/IllegalStateException", Cond.methodLink RX8 83 yX1_isSet, Cond.instanceMethod yX1_isSet, Cond.selects RX1 yX1_isSet yX1_isSet, Cond.code yX1_isSet cX1_isSet 2 (some .boolean), Cond.methodLink RX8 92 yX1_numberOf, Cond.instanceMethod yX1_numberOf, Cond.selects RX1 yX1_numberOf yX1_numberOf, Cond.code yX1_numberOf cX1_numberOf 3 (some .int), Cond.methodLink RX1 33 yX1_setAt, Cond.instanceMethod yX1_setAt, Cond.selects RX1 yX1_setAt yX1_setAt, Cond.code yX1_setAt cX1_setAt 2 (some .int), Cond.static yX8_at, Cond.code yX8_at cX8_at 2 (some .int), Cond.methodLink RX8 106 yX1_add, Cond.instanceMethod yX1_add, Cond.selects RX1 yX1_add yX1_add, Cond.code yX1_add cX1_add 4 (some .int)]
def wsL_law0_r10 : List Cond := [Cond.static yX8_hasBit, Cond.code yX8_hasBit cX8_hasBit 2 (some .boolean), Cond.methodLink RL 157 yX9_concept, Cond.instanceMethod yX9_concept, Cond.selects RX9 yX9_concept yX9_concept, Cond.code yX9_concept cX9_concept 2 (some .int), Cond.methodLink RX9 88 yX9_isSet, Cond.instanceMethod yX9_isSet, Cond.selects RX9 yX9_isSet yX9_isSet, Cond.code yX9_isSet cX9_isSet 2 (some .boolean), Cond.methodLink RX9 91 yX9_has, Cond.instanceMethod yX9_has, Cond.selects RX9 yX9_has yX9_has, Cond.code yX9_has cX9_has 5 (some .boolean), Cond.classLink RX9 86 "[I", Cond.methodLink RX9 72 ⟨"java/util/List", "iterator", "()Ljava/util/Iterator;"⟩, Cond.selects RJx4a65c ⟨"java/util/List", "iterator", "()Ljava/util/Iterator;"⟩ yJx4a65c_iterator_32c93, Cond.instanceMethod yJx4a65c_iterator_32c93, Cond.code yJx4a65c_iterator_32c93 cJx4a65c_iterator_32c93 1 (some (.object "java/util/Iterator")), Cond.classLink RJx4a65c 267 RJx35411, Cond.instantiable RJx35411 4, Cond.initialized RJx35411, Cond.methodLink RJx4a65c 269 yJx35411_init_45d68, Cond.instanceMethod yJx35411_init_45d68]
def wsL_law0_r11 : List Cond := [Cond.code yJx35411_init_45d68 cJx35411_init_45d68 2 none, Cond.fieldLink RJx35411 1 "java/util/ArrayList$Itr" "this$0" "Ljava/util/ArrayList;", Cond.methodLink RJx35411 7 objectInit, Cond.fieldLink RJx35411 13 "java/util/ArrayList$Itr" "lastRet" "I", Cond.fieldLink RJx35411 17 "java/util/ArrayList" "modCount" "I", Cond.fieldLink RJx35411 22 "java/util/ArrayList$Itr" "expectedModCount" "I", Cond.methodLink RX9 76 ⟨"java/util/Iterator", "hasNext", "()Z"⟩, Cond.selects RJx35411 ⟨"java/util/Iterator", "hasNext", "()Z"⟩ yJx35411_hasNext_aae02, Cond.instanceMethod yJx35411_hasNext_aae02, Cond.code yJx35411_hasNext_aae02 cJx35411_hasNext_aae02 1 (some .boolean), Cond.fieldLink RJx35411 25 "java/util/ArrayList$Itr" "cursor" "I", Cond.methodLink RX9 82 ⟨"java/util/Iterator", "next", "()Ljava/lang/Object;"⟩, Cond.selects RJx35411 ⟨"java/util/Iterator", "next", "()Ljava/lang/Object;"⟩ yJx35411_next_0502b, Cond.instanceMethod yJx35411_next_0502b, Cond.code yJx35411_next_0502b cJx35411_next_0502b 3 (some (.object "java/lang/Object")), Cond.fieldLink RJx35411 37 "java/util/ArrayList" "elementData" "[Ljava/lang/Object;", Cond.methodLink RJx35411 31 yJx35411_checkForComodification_da8c8, Cond.instanceMethod yJx35411_checkForComodification_da8c8, Cond.selects RJx35411 yJx35411_checkForComodification_da8c8 yJx35411_checkForComodification_da8c8, Cond.code yJx35411_checkForComodification_da8c8 cJx35411_checkForComodification_da8c8 1 none, Cond.methodLink RX9 94 ⟨"java/util/List", "add", "(Ljava/lang/Object;)Z"⟩, Cond.selects RJx4a65c ⟨"java/util/List", "add", "(Ljava/lang/Object;)Z"⟩ yJx4a65c_add_9ea2d, Cond.instanceMethod yJx4a65c_add_9ea2d, Cond.code yJx4a65c_add_9ea2d cJx4a65c_add_9ea2d 2 (some .boolean)]
def wsL_law0_r12 : List Cond := [Cond.methodLink RJx4a65c 131 yJx4a65c_add_72be8, Cond.instanceMethod yJx4a65c_add_72be8, Cond.selects RJx4a65c yJx4a65c_add_72be8 yJx4a65c_add_72be8, Cond.code yJx4a65c_add_72be8 cJx4a65c_add_72be8 4 none, Cond.methodLink RJx4a65c 129 yJx4a65c_grow_d5877, Cond.instanceMethod yJx4a65c_grow_d5877, Cond.selects RJx4a65c yJx4a65c_grow_d5877 yJx4a65c_grow_d5877, Cond.code yJx4a65c_grow_d5877 cJx4a65c_grow_d5877 1 (some (.array (.object "java/lang/Object"))), Cond.methodLink RJx4a65c 69 yJx4a65c_grow_92f84, Cond.instanceMethod yJx4a65c_grow_92f84, Cond.selects RJx4a65c yJx4a65c_grow_92f84 yJx4a65c_grow_92f84, Cond.code yJx4a65c_grow_92f84 cJx4a65c_grow_92f84 4 (some (.array (.object "java/lang/Object"))), Cond.methodLink RJx4a65c 79 Lib.Math.max.name, Cond.static Lib.Math.max.name, Cond.initialized "java/lang/Math", Cond.code Lib.Math.max.name Lib.Math.max.code 2 (some .int), Cond.classLink RJx4a65c 7 "java/lang/Object", Cond.methodLink RJx4a65c 73 yJ8_newLength_cabcc, Cond.static yJ8_newLength_cabcc, Cond.initialized RJ8, Cond.code yJ8_newLength_cabcc cJ8_newLength_cabcc 4 (some .int), Cond.methodLink RJ8 194 Lib.Math.max.name, Cond.constant RJ8 200 (2147483639), Cond.methodLink RJ8 201 yJ8_hugeLength_7cf53]
def wsL_law0_r13 : List Cond := [Cond.static yJ8_hugeLength_7cf53, Cond.code yJ8_hugeLength_7cf53 cJ8_hugeLength_7cf53 3 (some .int), Cond.methodLink RJx4a65c 66 yJ7_copyOf_1904c, Cond.static yJ7_copyOf_1904c, Cond.initialized RJ7, Cond.code yJ7_copyOf_1904c cJ7_copyOf_1904c 2 (some (.array (.object "java/lang/Object"))), Cond.methodLink RJ7 86 ⟨"java/lang/Object", "getClass", "()Ljava/lang/Class;"⟩, Cond.selects "[Ljava/lang/Object;" ⟨"java/lang/Object", "getClass", "()Ljava/lang/Class;"⟩ ⟨"java/lang/Object", "getClass", "()Ljava/lang/Class;"⟩, Cond.instanceMethod ⟨"java/lang/Object", "getClass", "()Ljava/lang/Class;"⟩, Cond.native ⟨"java/lang/Object", "getClass", "()Ljava/lang/Class;"⟩, Cond.methodLink RJ7 300 yJ7_copyOf_6403c, Cond.static yJ7_copyOf_6403c, Cond.code yJ7_copyOf_6403c cJ7_copyOf_6403c 4 (some (.array (.object "java/lang/Object"))), Cond.classLink RJ7 110 "[Ljava/lang/Object;", Cond.classLink RJ7 2 "java/lang/Object", Cond.methodLink RJ7 304 Lib.Math.min.name, Cond.static Lib.Math.min.name, Cond.code Lib.Math.min.name Lib.Math.min.code 2 (some .int), Cond.methodLink RJ7 150 arraycopyName, Cond.native arraycopyName, Cond.static arraycopyName, Cond.initialized "java/lang/System", Cond.methodLink RL 158 yL_family, Cond.static yL_family]
def wsL_law0_r14 : List Cond := [Cond.codeWith yL_family cL_family 4 (some .int) [(0, 9, 12, 13), (0, 9, 15, 18), (0, 9, 18, 20)], Cond.methodLink RL 22 yX8_family, Cond.instanceMethod yX8_family, Cond.selects RX8 yX8_family yX8_family, Cond.code yX8_family cX8_family 2 (some .int), Cond.methodLink RX8 109 yX1_isFamily, Cond.static yX1_isFamily, Cond.code yX1_isFamily cX1_isFamily 1 (some .boolean), Cond.methodLink RX8 117 yX1_missing, Cond.instanceMethod yX1_missing, Cond.selects RX1 yX1_missing yX1_missing, Cond.code yX1_missing cX1_missing 4 (some .int), Cond.methodLink RX1 56 yX1_isOf, Cond.static yX1_isOf, Cond.code yX1_isOf cX1_isOf 2 (some .boolean), Cond.methodLink RX1 51 yJ6_bitCount_0f7a4, Cond.static yJ6_bitCount_0f7a4, Cond.initialized RJ6, Cond.code yJ6_bitCount_0f7a4 cJ6_bitCount_0f7a4 1 (some .int), Cond.constant RJ6 265 (1431655765), Cond.constant RJ6 266 (858993459), Cond.constant RJ6 267 (252645135), Cond.methodLink RX1 60 yX1_numberOf, Cond.methodLink RX8 123 yX1_addAll]
def wsL_law0_r15 : List Cond := [Cond.instanceMethod yX1_addAll, Cond.selects RX1 yX1_addAll yX1_addAll, Cond.code yX1_addAll cX1_addAll 3 none, Cond.methodLink RX1 63 yX1_add, Cond.methodLink RL 161 yX9_family, Cond.instanceMethod yX9_family, Cond.selects RX9 yX9_family yX9_family, Cond.code yX9_family cX9_family 5 (some .int), Cond.classLink RX9 99 "java/lang/Integer", Cond.methodLink RX9 106 yJ0_indexOf_0f7a4, Cond.instanceMethod yJ0_indexOf_0f7a4, Cond.selects RJ0 yJ0_indexOf_0f7a4 yJ0_indexOf_0f7a4, Cond.initialized RJ0, Cond.code yJ0_indexOf_0f7a4 cJ0_indexOf_0f7a4 2 (some .int), Cond.methodLink RJ0 633 yJ0_indexOf_7cf53, Cond.instanceMethod yJ0_indexOf_7cf53, Cond.selects RJ0 yJ0_indexOf_7cf53 yJ0_indexOf_7cf53, Cond.code yJ0_indexOf_7cf53 cJ0_indexOf_7cf53 3 (some .int), Cond.fieldLink RJ0 9 "java/lang/String" "value" "[B", Cond.methodLink RJ0 492 yJ0_isLatin1_aae02, Cond.instanceMethod yJ0_isLatin1_aae02, Cond.selects RJ0 yJ0_isLatin1_aae02 yJ0_isLatin1_aae02, Cond.code yJ0_isLatin1_aae02 cJ0_isLatin1_aae02 1 (some .boolean), Cond.fieldLink RJ0 38 "java/lang/String" "COMPACT_STRINGS" "Z"]
def wsL_law0_r16 : List Cond := [Cond.fieldLink RJ0 15 "java/lang/String" "coder" "B", Cond.methodLink RJ0 505 yJ0_length_8abf5, Cond.instanceMethod yJ0_length_8abf5, Cond.selects RJ0 yJ0_length_8abf5 yJ0_length_8abf5, Cond.code yJ0_length_8abf5 cJ0_length_8abf5 1 (some .int), Cond.methodLink RJ0 335 yJ0_coder_7d493, Cond.instanceMethod yJ0_coder_7d493, Cond.selects RJ0 yJ0_coder_7d493 yJ0_coder_7d493, Cond.code yJ0_coder_7d493 cJ0_coder_7d493 1 (some .byte), Cond.methodLink RJ0 637 yJ1_indexOf_4cfef, Cond.static yJ1_indexOf_4cfef, Cond.initialized RJ1, Cond.code yJ1_indexOf_4cfef cJ1_indexOf_4cfef 4 (some .int), Cond.methodLink RJ1 92 Lib.Math.max.name, Cond.methodLink RJ1 38 Lib.Math.min.name, Cond.methodLink RJ1 88 yJ1_canEncode_9a6ad, Cond.static yJ1_canEncode_9a6ad, Cond.code yJ1_canEncode_9a6ad cJ1_canEncode_9a6ad 1 (some .boolean), Cond.methodLink RJ1 95 yJ1_indexOfChar_4cfef, Cond.static yJ1_indexOfChar_4cfef, Cond.code yJ1_indexOfChar_4cfef cJ1_indexOfChar_4cfef 6 (some .int), Cond.methodLink RJ0 640 yJ2_indexOf_4cfef, Cond.static yJ2_indexOf_4cfef, Cond.initialized RJ2]
def wsL_law0_r17 : List Cond := [Cond.code yJ2_indexOf_4cfef cJ2_indexOf_4cfef 4 (some .int), Cond.methodLink RJ2 224 Lib.Math.max.name, Cond.methodLink RJ2 183 Lib.Math.min.name, Cond.constant RJ2 227 (65536), Cond.methodLink RJ2 228 yJ2_indexOfChar_4cfef, Cond.static yJ2_indexOfChar_4cfef, Cond.code yJ2_indexOfChar_4cfef cJ2_indexOfChar_4cfef 4 (some .int), Cond.methodLink RJ2 96 yJ2_checkBoundsBeginEnd_d044e, Cond.static yJ2_checkBoundsBeginEnd_d044e, Cond.code yJ2_checkBoundsBeginEnd_d044e cJ2_checkBoundsBeginEnd_d044e 3 none, Cond.methodLink RJ2 48 yJ2_length_9d52b, Cond.static yJ2_length_9d52b, Cond.code yJ2_length_9d52b cJ2_length_9d52b 1 (some .int), Cond.methodLink RJ2 241 yJ0_checkBoundsBeginEnd_23922, Cond.static yJ0_checkBoundsBeginEnd_23922, Cond.code yJ0_checkBoundsBeginEnd_23922 cJ0_checkBoundsBeginEnd_23922 3 none, Cond.fieldLink RJ0 1053 "jdk/internal/util/Preconditions" "SIOOBE_FORMATTER" "Ljava/util/function/BiFunction;", Cond.methodLink RJ0 1062 yJ3_checkFromToIndex_8c36e, Cond.static yJ3_checkFromToIndex_8c36e, Cond.initialized RJ3, Cond.code yJ3_checkFromToIndex_8c36e cJ3_checkFromToIndex_8c36e 4 (some .int), Cond.methodLink RJ2 244 yJ2_indexOfCharUnsafe_4cfef, Cond.static yJ2_indexOfCharUnsafe_4cfef, Cond.code yJ2_indexOfCharUnsafe_4cfef cJ2_indexOfCharUnsafe_4cfef 5 (some .int)]
def wsL_law0_r18 : List Cond := [Cond.methodLink RJ2 71 yJ2_getChar_3b067, Cond.static yJ2_getChar_3b067, Cond.code yJ2_getChar_3b067 cJ2_getChar_3b067 2 (some .char), Cond.fieldLink RJ2 44 "java/lang/StringUTF16" "$assertionsDisabled" "Z", Cond.fieldLink RJ2 59 "java/lang/StringUTF16" "HI_BYTE_SHIFT" "I", Cond.fieldLink RJ2 63 "java/lang/StringUTF16" "LO_BYTE_SHIFT" "I", Cond.methodLink RJ2 232 yJ2_indexOfSupplementary_4cfef, Cond.static yJ2_indexOfSupplementary_4cfef, Cond.code yJ2_indexOfSupplementary_4cfef cJ2_indexOfSupplementary_4cfef 7 (some .int), Cond.methodLink RJ2 164 yJ11_isValidCodePoint_9a6ad, Cond.static yJ11_isValidCodePoint_9a6ad, Cond.initialized RJ11, Cond.code yJ11_isValidCodePoint_9a6ad cJ11_isValidCodePoint_9a6ad 2 (some .boolean), Cond.methodLink RJ2 157 yJ11_highSurrogate_5068e, Cond.static yJ11_highSurrogate_5068e, Cond.code yJ11_highSurrogate_5068e cJ11_highSurrogate_5068e 1 (some .char), Cond.constant RJ11 110 (55232), Cond.methodLink RJ2 161 yJ11_lowSurrogate_5068e, Cond.static yJ11_lowSurrogate_5068e, Cond.code yJ11_lowSurrogate_5068e cJ11_lowSurrogate_5068e 1 (some .char), Cond.constant RJ11 76 (56320), Cond.methodLink RX9 111 yX9_isIn, Cond.static yX9_isIn, Cond.code yX9_isIn cX9_isIn 5 (some .boolean)]
def wsL_law0_r19 : List Cond := [Cond.methodLink RX9 98 yJ6_bitCount_0f7a4, Cond.methodLink RX9 115 yJ6_valueOf_2dffe, Cond.static yJ6_valueOf_2dffe, Cond.code yJ6_valueOf_2dffe cJ6_valueOf_2dffe 1 (some (.object "java/lang/Integer")), Cond.fieldLink RJ6 191 "java/lang/Integer$IntegerCache" "high" "I", Cond.fieldLink RJ6 195 "java/lang/Integer$IntegerCache" "cache" "[Ljava/lang/Integer;", Cond.classLink RJ6 1 RJ6, Cond.instantiable RJ6 1, Cond.methodLink RJ6 199 yJ6_init_d00df, Cond.instanceMethod yJ6_init_d00df, Cond.code yJ6_init_d00df cJ6_init_d00df 2 none, Cond.fieldLink RJ6 205 "java/lang/Integer" "value" "I", Cond.methodLink RJ6 202 yJxd2413_init_da8c8, Cond.instanceMethod yJxd2413_init_da8c8, Cond.initialized RJxd2413, Cond.code yJxd2413_init_da8c8 cJxd2413_init_da8c8 1 none, Cond.methodLink RJxd2413 1 objectInit, Cond.methodLink RX9 119 yJ6_intValue_8abf5, Cond.instanceMethod yJ6_intValue_8abf5, Cond.selects RJ6 yJ6_intValue_8abf5 yJ6_intValue_8abf5, Cond.code yJ6_intValue_8abf5 cJ6_intValue_8abf5 1 (some .int), Cond.methodLink RL 162 yL_setOf, Cond.static yL_setOf, Cond.codeWith yL_setOf cL_setOf 4 (some .int) [(0, 9, 12, 29)]]
def wsL_law0_r20 : List Cond := [Cond.classLink RL 29 "java/lang/IndexOutOfBoundsException", Cond.methodLink RL 26 yX8_setOf, Cond.instanceMethod yX8_setOf, Cond.selects RX8 yX8_setOf yX8_setOf, Cond.code yX8_setOf cX8_setOf 2 (some .int), Cond.classLink RX8 130 "java/lang/IndexOutOfBoundsException", Cond.initialized "java/lang/IndexOutOfBoundsException", Cond.methodLink RX8 127 yX1_isNumber, Cond.instanceMethod yX1_isNumber, Cond.selects RX1 yX1_isNumber yX1_isNumber, Cond.code yX1_isNumber cX1_isNumber 2 (some .boolean), Cond.methodLink RX8 135 yX1_setAt, Cond.methodLink RL 164 yX9_setOf, Cond.instanceMethod yX9_setOf, Cond.selects RX9 yX9_setOf yX9_setOf, Cond.code yX9_setOf cX9_setOf 2 (some .int), Cond.methodLink RX9 126 yX9_isNoConcept, Cond.instanceMethod yX9_isNoConcept, Cond.selects RX9 yX9_isNoConcept yX9_isNoConcept, Cond.code yX9_isNoConcept cX9_isNoConcept 2 (some .boolean), Cond.methodLink RX9 122 yX9_isOf, Cond.static yX9_isOf, Cond.code yX9_isOf cX9_isOf 2 (some .boolean), Cond.methodLink RX9 129 ⟨"java/util/List", "get", "(I)Ljava/lang/Object;"⟩]
def wsL_law0_r21 : List Cond := [Cond.selects RJx4a65c ⟨"java/util/List", "get", "(I)Ljava/lang/Object;"⟩ yJx4a65c_get_915e3, Cond.instanceMethod yJx4a65c_get_915e3, Cond.code yJx4a65c_get_915e3 cJx4a65c_get_915e3 2 (some (.object "java/lang/Object")), Cond.methodLink RJx4a65c 118 yJ15_checkIndex_7cf53, Cond.static yJ15_checkIndex_7cf53, Cond.initialized RJ15, Cond.code yJ15_checkIndex_7cf53 cJ15_checkIndex_7cf53 2 (some .int), Cond.methodLink RJ15 105 yJ3_checkIndex_8e157, Cond.static yJ3_checkIndex_8e157, Cond.code yJ3_checkIndex_8e157 cJ3_checkIndex_8e157 3 (some .int), Cond.methodLink RJx4a65c 123 yJx4a65c_elementData_915e3, Cond.instanceMethod yJx4a65c_elementData_915e3, Cond.selects RJx4a65c yJx4a65c_elementData_915e3 yJx4a65c_elementData_915e3, Cond.code yJx4a65c_elementData_915e3 cJx4a65c_elementData_915e3 2 (some (.object "java/lang/Object")), Cond.methodLink RL 165 yL_teach, Cond.static yL_teach, Cond.codeWith yL_teach cL_teach 6 (some .int) [(0, 19, 22, 13), (0, 19, 26, 29), (0, 19, 30, 18)], Cond.methodLink RL 31 yX8_teach, Cond.instanceMethod yX8_teach, Cond.selects RX8 yX8_teach yX8_teach, Cond.code yX8_teach cX8_teach 5 (some .boolean), Cond.methodLink RX8 138 yX5_isKind, Cond.static yX5_isKind, Cond.code yX5_isKind cX5_isKind 1 (some .boolean)]
def wsL_law0_r22 : List Cond := [Cond.methodLink RX8 147 yX5_isThere, Cond.instanceMethod yX5_isThere, Cond.selects RX5 yX5_isThere yX5_isThere, Cond.code yX5_isThere cX5_isThere 1 (some .boolean), Cond.methodLink RX8 151 yX5_come, Cond.methodLink RL 168 yX9_teach, Cond.instanceMethod yX9_teach, Cond.selects RX9 yX9_teach yX9_teach, Cond.code yX9_teach cX9_teach 8 (some .boolean), Cond.constantLong RX9 133 (2), Cond.fieldLink RX9 138 "QueryschoolModel" "hidden" "I", Cond.fieldLink RX9 141 "QueryschoolModel" "budget" "I", Cond.fieldLink RX9 144 "QueryschoolModel" "lies" "I", Cond.methodLink RX9 135 ⟨"java/util/List", "isEmpty", "()Z"⟩, Cond.selects RJx4a65c ⟨"java/util/List", "isEmpty", "()Z"⟩ yJx4a65c_isEmpty_aae02, Cond.instanceMethod yJx4a65c_isEmpty_aae02, Cond.code yJx4a65c_isEmpty_aae02 cJx4a65c_isEmpty_aae02 1 (some .boolean), Cond.methodLink RL 169 yL_seed, Cond.static yL_seed, Cond.codeWith yL_seed cL_seed 4 (some .int) [(0, 9, 12, 13)], Cond.methodLink RL 35 yX8_seed, Cond.instanceMethod yX8_seed, Cond.selects RX8 yX8_seed yX8_seed, Cond.code yX8_seed cX8_seed 3 (some .int)]
def wsL_law0_r23 : List Cond := [Cond.constant RX8 155 (2147483646), Cond.methodLink RL 171 yX9_seed, Cond.instanceMethod yX9_seed, Cond.selects RX9 yX9_seed yX9_seed, Cond.code yX9_seed cX9_seed 3 (some .int), Cond.constantLong RX9 147 (2147483646), Cond.methodLink RL 172 yL_ask, Cond.static yL_ask, Cond.codeWith yL_ask cL_ask 4 (some .int) [(0, 16, 19, 13), (0, 16, 22, 18), (0, 16, 25, 20)], Cond.methodLink RL 38 yX8_ask, Cond.instanceMethod yX8_ask, Cond.selects RX8 yX8_ask yX8_ask, Cond.code yX8_ask cX8_ask 2 (some .boolean), Cond.methodLink RX8 161 yX1_isPoint, Cond.instanceMethod yX1_isPoint, Cond.selects RX1 yX1_isPoint yX1_isPoint, Cond.code yX1_isPoint cX1_isPoint 2 (some .boolean), Cond.methodLink RX8 170 yX5_answer, Cond.instanceMethod yX5_answer, Cond.selects RX5 yX5_answer yX5_answer, Cond.code yX5_answer cX5_answer 3 (some .boolean), Cond.methodLink RX5 65 yX5_living, Cond.instanceMethod yX5_living, Cond.selects RX5 yX5_living yX5_living]
def wsL_law0_r24 : List Cond := [Cond.code yX5_living cX5_living 3 (some .int), Cond.methodLink RX5 61 yX5_isLiving, Cond.instanceMethod yX5_isLiving, Cond.selects RX5 yX5_isLiving yX5_isLiving, Cond.code yX5_isLiving cX5_isLiving 2 (some .boolean), Cond.methodLink RX5 54 yX5_conflictsOf, Cond.instanceMethod yX5_conflictsOf, Cond.selects RX5 yX5_conflictsOf yX5_conflictsOf, Cond.code yX5_conflictsOf cX5_conflictsOf 2 (some .int), Cond.methodLink RX5 80 yX1_isMostlyIn, Cond.instanceMethod yX1_isMostlyIn, Cond.selects RX1 yX1_isMostlyIn yX1_isMostlyIn, Cond.code yX1_isMostlyIn cX1_isMostlyIn 3 (some .boolean), Cond.methodLink RX1 45 yX1_holding, Cond.instanceMethod yX1_holding, Cond.selects RX1 yX1_holding yX1_holding, Cond.code yX1_holding cX1_holding 2 (some .int), Cond.methodLink RX1 48 yX1_lacking, Cond.instanceMethod yX1_lacking, Cond.selects RX1 yX1_lacking yX1_lacking, Cond.code yX1_lacking cX1_lacking 2 (some .int), Cond.methodLink RX1 41 yX1_everyone, Cond.instanceMethod yX1_everyone, Cond.selects RX1 yX1_everyone yX1_everyone]
def wsL_law0_r25 : List Cond := [Cond.code yX1_everyone cX1_everyone 1 (some .int), Cond.methodLink RX5 84 yX5_hasHidden, Cond.instanceMethod yX5_hasHidden, Cond.selects RX5 yX5_hasHidden yX5_hasHidden, Cond.code yX5_hasHidden cX5_hasHidden 2 (some .boolean), Cond.methodLink RX5 101 yX1_setAt, Cond.methodLink RX5 87 yX5_drawsLie, Cond.instanceMethod yX5_drawsLie, Cond.selects RX5 yX5_drawsLie yX5_drawsLie, Cond.code yX5_drawsLie cX5_drawsLie 1 (some .boolean), Cond.constantLong RX5 107 (48271), Cond.constantLong RX5 109 (2147483647), Cond.methodLink RX5 91 yX1_lacking, Cond.methodLink RX5 94 yX1_holding, Cond.methodLink RX5 97 yX5_noteAgainst, Cond.instanceMethod yX5_noteAgainst, Cond.selects RX5 yX5_noteAgainst yX5_noteAgainst, Cond.code yX5_noteAgainst cX5_noteAgainst 4 none, Cond.methodLink RL 174 yX9_ask, Cond.instanceMethod yX9_ask, Cond.selects RX9 yX9_ask yX9_ask, Cond.code yX9_ask cX9_ask 2 (some .boolean), Cond.methodLink RX9 170 yX9_asks, Cond.instanceMethod yX9_asks]
def wsL_law0_r26 : List Cond := [Cond.selects RX9 yX9_asks yX9_asks, Cond.code yX9_asks cX9_asks 5 (some .boolean), Cond.methodLink RX9 167 yX9_answer, Cond.instanceMethod yX9_answer, Cond.selects RX9 yX9_answer yX9_answer, Cond.code yX9_answer cX9_answer 3 (some .boolean), Cond.constantLong RX9 163 (48271), Cond.constantLong RX9 165 (2147483647), Cond.methodLink RX9 157 yX9_livingWith, Cond.instanceMethod yX9_livingWith, Cond.selects RX9 yX9_livingWith yX9_livingWith, Cond.code yX9_livingWith cX9_livingWith 5 (some .int), Cond.methodLink RX9 149 yX9_lives, Cond.instanceMethod yX9_lives, Cond.selects RX9 yX9_lives yX9_lives, Cond.code yX9_lives cX9_lives 2 (some .boolean), Cond.methodLink RX9 153 yX9_hasPoint, Cond.static yX9_hasPoint, Cond.code yX9_hasPoint cX9_hasPoint 2 (some .boolean), Cond.methodLink RX9 160 yX9_living, Cond.instanceMethod yX9_living, Cond.selects RX9 yX9_living yX9_living, Cond.code yX9_living cX9_living 4 (some .int), Cond.methodLink RL 175 yL_equal]
def wsL_law0_r27 : List Cond := [Cond.static yL_equal, Cond.codeWith yL_equal cL_equal 4 (some .int) [(0, 9, 12, 13), (0, 9, 15, 18), (0, 9, 18, 20)], Cond.methodLink RL 42 yX8_equal, Cond.instanceMethod yX8_equal, Cond.selects RX8 yX8_equal yX8_equal, Cond.code yX8_equal cX8_equal 2 (some .int), Cond.methodLink RX8 173 yX5_compare, Cond.instanceMethod yX5_compare, Cond.selects RX5 yX5_compare yX5_compare, Cond.code yX5_compare cX5_compare 3 (some .int), Cond.methodLink RX5 111 yX5_keepingCounter, Cond.instanceMethod yX5_keepingCounter, Cond.selects RX5 yX5_keepingCounter yX5_keepingCounter, Cond.code yX5_keepingCounter cX5_keepingCounter 7 (some .int), Cond.methodLink RX5 120 yX1_agreeing, Cond.instanceMethod yX1_agreeing, Cond.selects RX1 yX1_agreeing yX1_agreeing, Cond.code yX1_agreeing cX1_agreeing 3 (some .int), Cond.methodLink RX5 69 yJ6_bitCount_0f7a4, Cond.static yX8_lowestBit, Cond.code yX8_lowestBit cX8_lowestBit 2 (some .int), Cond.methodLink RX8 383 yX8_hasBit, Cond.methodLink RX5 117 yX5_others, Cond.instanceMethod yX5_others]
def wsL_law0_r28 : List Cond := [Cond.selects RX5 yX5_others yX5_others, Cond.code yX5_others cX5_others 3 (some .int), Cond.methodLink RX5 127 yX1_numberOf, Cond.methodLink RX5 130 yX1_everyone, Cond.methodLink RX5 124 yX5_bury, Cond.instanceMethod yX5_bury, Cond.selects RX5 yX5_bury yX5_bury, Cond.code yX5_bury cX5_bury 3 none, Cond.methodLink RL 177 yX9_equal, Cond.instanceMethod yX9_equal, Cond.selects RX9 yX9_equal yX9_equal, Cond.code yX9_equal cX9_equal 7 (some .int), Cond.methodLink RX9 179 yX9_counter, Cond.instanceMethod yX9_counter, Cond.selects RX9 yX9_counter yX9_counter, Cond.code yX9_counter cX9_counter 6 (some .int), Cond.methodLink RX9 173 Lib.Math.max.name, Cond.methodLink RX9 182 yJ6_numberOfTrailingZeros_0f7a4, Cond.static yJ6_numberOfTrailingZeros_0f7a4, Cond.code yJ6_numberOfTrailingZeros_0f7a4 cJ6_numberOfTrailingZeros_0f7a4 2 (some .int), Cond.constant RJ6 264 (65536), Cond.methodLink RL 178 yX8_answers, Cond.instanceMethod yX8_answers, Cond.selects RX8 yX8_answers yX8_answers]
def wsL_law0_r29 : List Cond := [Cond.code yX8_answers cX8_answers 1 (some .int), Cond.methodLink RL 181 yX9_answers, Cond.instanceMethod yX9_answers, Cond.selects RX9 yX9_answers yX9_answers, Cond.code yX9_answers cX9_answers 1 (some .int), Cond.methodLink RL 182 yL_conflicts, Cond.static yL_conflicts, Cond.codeWith yL_conflicts cL_conflicts 4 (some .int) [(0, 9, 12, 29)], Cond.methodLink RL 45 yX8_conflicts, Cond.instanceMethod yX8_conflicts, Cond.selects RX8 yX8_conflicts yX8_conflicts, Cond.code yX8_conflicts cX8_conflicts 2 (some .int), Cond.methodLink RX8 176 yX5_conflictsOf, Cond.methodLink RL 184 yX9_conflicts, Cond.instanceMethod yX9_conflicts, Cond.selects RX9 yX9_conflicts yX9_conflicts, Cond.code yX9_conflicts cX9_conflicts 2 (some .int), Cond.methodLink RL 185 yL_isAlive, Cond.static yL_isAlive, Cond.codeWith yL_isAlive cL_isAlive 4 (some .int) [(0, 16, 19, 29)], Cond.methodLink RL 48 yX8_isAlive, Cond.instanceMethod yX8_isAlive, Cond.selects RX8 yX8_isAlive yX8_isAlive, Cond.code yX8_isAlive cX8_isAlive 2 (some .boolean)]
def wsL_law0_r30 : List Cond := [Cond.methodLink RX8 179 yX5_isLiving, Cond.methodLink RL 187 yX9_isAlive, Cond.instanceMethod yX9_isAlive, Cond.selects RX9 yX9_isAlive yX9_isAlive, Cond.code yX9_isAlive cX9_isAlive 2 (some .boolean), Cond.methodLink RL 188 yX8_alive, Cond.instanceMethod yX8_alive, Cond.selects RX8 yX8_alive yX8_alive, Cond.code yX8_alive cX8_alive 1 (some .int), Cond.methodLink RX8 182 yX5_living, Cond.methodLink RX8 186 yJ6_bitCount_0f7a4, Cond.methodLink RL 191 yX9_alive, Cond.instanceMethod yX9_alive, Cond.selects RX9 yX9_alive yX9_alive, Cond.code yX9_alive cX9_alive 1 (some .int), Cond.methodLink RL 192 yL_sure, Cond.static yL_sure, Cond.codeWith yL_sure cL_sure 4 (some .int) [(0, 9, 12, 13)], Cond.methodLink RL 51 yX8_sure, Cond.instanceMethod yX8_sure, Cond.selects RX8 yX8_sure yX8_sure, Cond.code yX8_sure cX8_sure 2 (some .char), Cond.methodLink RX8 191 yX1_agreementOn, Cond.instanceMethod yX1_agreementOn]
def wsL_law0_r31 : List Cond := [Cond.selects RX1 yX1_agreementOn yX1_agreementOn, Cond.code yX1_agreementOn cX1_agreementOn 4 (some .char), Cond.methodLink RL 194 yX9_sure, Cond.instanceMethod yX9_sure, Cond.selects RX9 yX9_sure yX9_sure, Cond.code yX9_sure cX9_sure 3 (some .char), Cond.methodLink RL 195 yL_best, Cond.static yL_best, Cond.codeWith yL_best cL_best 3 (some .int) [(0, 8, 11, 59)], Cond.classLink RL 59 "java/util/NoSuchElementException", Cond.methodLink RL 55 yX8_best, Cond.instanceMethod yX8_best, Cond.selects RX8 yX8_best yX8_best, Cond.code yX8_best cX8_best 2 (some .int), Cond.classLink RX8 195 "java/util/NoSuchElementException", Cond.initialized "java/util/NoSuchElementException", Cond.methodLink RX8 200 yX1_bestQuestion, Cond.instanceMethod yX1_bestQuestion, Cond.selects RX1 yX1_bestQuestion yX1_bestQuestion, Cond.code yX1_bestQuestion cX1_bestQuestion 6 (some .int), Cond.methodLink RX1 66 Lib.Math.min.name, Cond.methodLink RL 198 yX9_best, Cond.instanceMethod yX9_best, Cond.selects RX9 yX9_best yX9_best]
def wsL_law0_r32 : List Cond := [Cond.code yX9_best cX9_best 1 (some .int), Cond.methodLink RX9 188 yX9_bestPoint, Cond.instanceMethod yX9_bestPoint, Cond.selects RX9 yX9_bestPoint yX9_bestPoint, Cond.code yX9_bestPoint cX9_bestPoint 5 (some .int), Cond.methodLink RX9 185 Lib.Math.min.name, Cond.methodLink RL 199 yL_learn, Cond.static yL_learn, Cond.codeWith yL_learn cL_learn 3 (some .int) [(0, 8, 11, 18)], Cond.methodLink RL 61 yX8_learn, Cond.instanceMethod yX8_learn, Cond.selects RX8 yX8_learn yX8_learn, Cond.code yX8_learn cX8_learn 1 (some .int), Cond.methodLink RX8 203 yX5_askOn, Cond.instanceMethod yX5_askOn, Cond.selects RX5 yX5_askOn yX5_askOn, Cond.code yX5_askOn cX5_askOn 3 (some .int), Cond.methodLink RX5 74 yX1_bestQuestion, Cond.methodLink RX5 77 yX5_answer, Cond.methodLink RL 201 yX9_learn, Cond.instanceMethod yX9_learn, Cond.selects RX9 yX9_learn yX9_learn, Cond.code yX9_learn cX9_learn 2 (some .int), Cond.methodLink RL 202 yL_found]
def wsL_law0_r33 : List Cond := [Cond.static yL_found, Cond.codeWith yL_found cL_found 3 (some .int) [(0, 8, 11, 59)], Cond.methodLink RL 64 yX8_found, Cond.instanceMethod yX8_found, Cond.selects RX8 yX8_found yX8_found, Cond.code yX8_found cX8_found 2 (some .int), Cond.methodLink RX8 208 yX8_lowestBit, Cond.methodLink RL 204 yX9_found, Cond.instanceMethod yX9_found, Cond.selects RX9 yX9_found yX9_found, Cond.code yX9_found cX9_found 3 (some .int), Cond.methodLink RL 205 yL_isShattered, Cond.static yL_isShattered, Cond.codeWith yL_isShattered cL_isShattered 4 (some .int) [(0, 16, 19, 13)], Cond.methodLink RL 67 yX8_isShattered, Cond.instanceMethod yX8_isShattered, Cond.selects RX8 yX8_isShattered yX8_isShattered, Cond.code yX8_isShattered cX8_isShattered 2 (some .boolean), Cond.methodLink RX8 211 yX1_shatters, Cond.instanceMethod yX1_shatters, Cond.selects RX1 yX1_shatters yX1_shatters, Cond.code yX1_shatters cX1_shatters 5 (some .boolean), Cond.methodLink RX1 72 yJ13_bitCount_95d88, Cond.static yJ13_bitCount_95d88]
def wsL_law0_r34 : List Cond := [Cond.initialized RJ13, Cond.code yJ13_bitCount_95d88 cJ13_bitCount_95d88 2 (some .int), Cond.constantLong RJ13 314 (6148914691236517205), Cond.constantLong RJ13 316 (3689348814741910323), Cond.constantLong RJ13 318 (1085102592571150095), Cond.methodLink RL 207 yX9_isShattered, Cond.instanceMethod yX9_isShattered, Cond.selects RX9 yX9_isShattered yX9_isShattered, Cond.code yX9_isShattered cX9_isShattered 2 (some .boolean), Cond.methodLink RX9 191 yX9_shatters, Cond.instanceMethod yX9_shatters, Cond.selects RX9 yX9_shatters yX9_shatters, Cond.code yX9_shatters cX9_shatters 6 (some .boolean), Cond.methodLink RL 208 yX8_dimension, Cond.instanceMethod yX8_dimension, Cond.selects RX8 yX8_dimension yX8_dimension, Cond.code yX8_dimension cX8_dimension 1 (some .int), Cond.methodLink RX8 214 yX1_greatestShattered, Cond.instanceMethod yX1_greatestShattered, Cond.selects RX1 yX1_greatestShattered yX1_greatestShattered, Cond.code yX1_greatestShattered cX1_greatestShattered 3 (some .int), Cond.methodLink RX1 77 yX1_shatters, Cond.methodLink RL 211 yX9_dimension, Cond.instanceMethod yX9_dimension]
def wsL_law0_r35 : List Cond := [Cond.selects RX9 yX9_dimension yX9_dimension, Cond.code yX9_dimension cX9_dimension 1 (some .int), Cond.methodLink RX9 194 yX9_dimensionOf, Cond.instanceMethod yX9_dimensionOf, Cond.selects RX9 yX9_dimensionOf yX9_dimensionOf, Cond.code yX9_dimensionOf cX9_dimensionOf 3 (some .int), Cond.methodLink RL 212 yL_lesson, Cond.static yL_lesson, Cond.codeWith yL_lesson cL_lesson 4 (some .int) [(0, 9, 12, 29)], Cond.methodLink RL 70 yX8_lesson, Cond.instanceMethod yX8_lesson, Cond.selects RX8 yX8_lesson yX8_lesson, Cond.code yX8_lesson cX8_lesson 2 (some .int), Cond.methodLink RX8 217 yX1_leastLesson, Cond.instanceMethod yX1_leastLesson, Cond.selects RX1 yX1_leastLesson yX1_leastLesson, Cond.code yX1_leastLesson cX1_leastLesson 4 (some .int), Cond.methodLink RX1 81 yX1_isLesson, Cond.instanceMethod yX1_isLesson, Cond.selects RX1 yX1_isLesson yX1_isLesson, Cond.code yX1_isLesson cX1_isLesson 5 (some .boolean), Cond.methodLink RL 214 yX9_lesson, Cond.instanceMethod yX9_lesson, Cond.selects RX9 yX9_lesson yX9_lesson]
def wsL_law0_r36 : List Cond := [Cond.code yX9_lesson cX9_lesson 2 (some .int), Cond.methodLink RX9 197 yX9_lessonOf, Cond.instanceMethod yX9_lessonOf, Cond.selects RX9 yX9_lessonOf yX9_lessonOf, Cond.code yX9_lessonOf cX9_lessonOf 6 (some .int), Cond.methodLink RL 215 yX8_depth, Cond.instanceMethod yX8_depth, Cond.selects RX8 yX8_depth yX8_depth, Cond.code yX8_depth cX8_depth 1 (some .int), Cond.methodLink RX8 220 yX6_leastDepth, Cond.instanceMethod yX6_leastDepth, Cond.selects RX6 yX6_leastDepth yX6_leastDepth, Cond.code yX6_leastDepth cX6_leastDepth 2 (some .int), Cond.methodLink RX6 33 yX6_worthOfAll, Cond.instanceMethod yX6_worthOfAll, Cond.selects RX6 yX6_worthOfAll yX6_worthOfAll, Cond.code yX6_worthOfAll cX6_worthOfAll 4 (some .int), Cond.methodLink RX6 37 yX6_fillGroups, Cond.instanceMethod yX6_fillGroups, Cond.selects RX6 yX6_fillGroups yX6_fillGroups, Cond.code yX6_fillGroups cX6_fillGroups 5 (some .int), Cond.fieldLink RX6 61 "Queryschool$Trees" "points" "I", Cond.methodLink RX6 62 yX1_everyone, Cond.methodLink RX6 65 yX1_holding]
def wsL_law0_r37 : List Cond := [Cond.methodLink RX6 69 yX1_lacking, Cond.methodLink RX6 40 yX6_isSettled, Cond.instanceMethod yX6_isSettled, Cond.selects RX6 yX6_isSettled yX6_isSettled, Cond.code yX6_isSettled cX6_isSettled 2 (some .boolean), Cond.methodLink RX6 72 yJ6_bitCount_0f7a4, Cond.methodLink RX6 44 yX6_worthFrom, Cond.instanceMethod yX6_worthFrom, Cond.selects RX6 yX6_worthFrom yX6_worthFrom, Cond.code yX6_worthFrom cX6_worthFrom 11 (some .int), Cond.methodLink RX6 81 Lib.Math.min.name, Cond.methodLink RX6 87 Lib.Math.max.name, Cond.methodLink RX6 77 yX6_splits, Cond.instanceMethod yX6_splits, Cond.selects RX6 yX6_splits yX6_splits, Cond.code yX6_splits cX6_splits 3 (some .boolean), Cond.methodLink RL 218 yX9_depth, Cond.instanceMethod yX9_depth, Cond.selects RX9 yX9_depth yX9_depth, Cond.code yX9_depth cX9_depth 1 (some .int), Cond.methodLink RX9 204 yX9_depthOf, Cond.instanceMethod yX9_depthOf, Cond.selects RX9 yX9_depthOf yX9_depthOf, Cond.code yX9_depthOf cX9_depthOf 6 (some .int)]
def wsL_law0_r38 : List Cond := [Cond.methodLink RX9 200 yX9_with, Cond.instanceMethod yX9_with, Cond.selects RX9 yX9_with yX9_with, Cond.code yX9_with cX9_with 6 (some .int), Cond.methodLink RL 219 yX8_mistakes, Cond.instanceMethod yX8_mistakes, Cond.selects RX8 yX8_mistakes yX8_mistakes, Cond.code yX8_mistakes cX8_mistakes 1 (some .int), Cond.methodLink RX8 224 yX6_forcedMistakes, Cond.instanceMethod yX6_forcedMistakes, Cond.selects RX6 yX6_forcedMistakes yX6_forcedMistakes, Cond.code yX6_forcedMistakes cX6_forcedMistakes 2 (some .int), Cond.methodLink RL 222 yX9_mistakes, Cond.instanceMethod yX9_mistakes, Cond.selects RX9 yX9_mistakes yX9_mistakes, Cond.code yX9_mistakes cX9_mistakes 1 (some .int), Cond.methodLink RX9 207 yX9_mistakesOf, Cond.instanceMethod yX9_mistakesOf, Cond.selects RX9 yX9_mistakesOf yX9_mistakesOf, Cond.code yX9_mistakesOf cX9_mistakesOf 5 (some .int), Cond.methodLink RL 223 yL_halver, Cond.static yL_halver, Cond.codeWith yL_halver cL_halver 4 (some .int) [(0, 9, 12, 29)], Cond.methodLink RL 73 yX8_halver]
def wsL_law0_r39 : List Cond := [Cond.instanceMethod yX8_halver, Cond.selects RX8 yX8_halver yX8_halver, Cond.code yX8_halver cX8_halver 2 (some .int), Cond.methodLink RX8 227 yX1_halvingMistakes, Cond.instanceMethod yX1_halvingMistakes, Cond.selects RX1 yX1_halvingMistakes yX1_halvingMistakes, Cond.code yX1_halvingMistakes cX1_halvingMistakes 6 (some .int), Cond.methodLink RX1 87 yX1_isMostlyIn, Cond.methodLink RX1 90 yX1_agreeing, Cond.methodLink RL 225 yX9_halver, Cond.instanceMethod yX9_halver, Cond.selects RX9 yX9_halver yX9_halver, Cond.code yX9_halver cX9_halver 8 (some .int), Cond.methodLink RL 226 yL_experts, Cond.static yL_experts, Cond.codeWith yL_experts cL_experts 4 (some .int) [(0, 9, 12, 13)], Cond.methodLink RL 76 yX8_experts, Cond.instanceMethod yX8_experts, Cond.selects RX8 yX8_experts yX8_experts, Cond.code yX8_experts cX8_experts 3 (some .int), Cond.methodLink RX8 233 yX2_startAnew, Cond.instanceMethod yX2_startAnew, Cond.selects RX2 yX2_startAnew yX2_startAnew, Cond.code yX2_startAnew cX2_startAnew 3 none]
def wsL_law0_r40 : List Cond := [Cond.fieldLink RX2 18 "Queryschool$Crowd" "count" "I", Cond.fieldLink RX2 22 "Queryschool$Crowd" "wrong" "I", Cond.methodLink RL 228 yX9_experts, Cond.instanceMethod yX9_experts, Cond.selects RX9 yX9_experts yX9_experts, Cond.code yX9_experts cX9_experts 4 (some .int), Cond.fieldLink RX9 210 "QueryschoolModel" "crowd" "I", Cond.methodLink RL 229 yL_round, Cond.static yL_round, Cond.codeWith yL_round cL_round 5 (some .int) [(0, 17, 20, 13), (0, 17, 24, 18)], Cond.methodLink RL 79 yX8_round, Cond.instanceMethod yX8_round, Cond.selects RX8 yX8_round yX8_round, Cond.code yX8_round cX8_round 3 (some .boolean), Cond.methodLink RX8 238 yX2_hear, Cond.instanceMethod yX2_hear, Cond.selects RX2 yX2_hear yX2_hear, Cond.code yX2_hear cX2_hear 5 (some .boolean), Cond.methodLink RX2 50 Lib.Math.max.name, Cond.methodLink RX2 39 yX2_lead, Cond.instanceMethod yX2_lead, Cond.selects RX2 yX2_lead yX2_lead, Cond.code yX2_lead cX2_lead 4 (some .int), Cond.methodLink RX2 47 yX2_weightOf]
def wsL_law0_r41 : List Cond := [Cond.instanceMethod yX2_weightOf, Cond.selects RX2 yX2_weightOf yX2_weightOf, Cond.code yX2_weightOf cX2_weightOf 2 (some .int), Cond.methodLink RL 232 yX9_round, Cond.instanceMethod yX9_round, Cond.selects RX9 yX9_round yX9_round, Cond.code yX9_round cX9_round 7 (some .boolean), Cond.methodLink RL 233 yL_weight, Cond.static yL_weight, Cond.codeWith yL_weight cL_weight 4 (some .int) [(0, 9, 12, 29)], Cond.methodLink RL 83 yX8_weight, Cond.instanceMethod yX8_weight, Cond.selects RX8 yX8_weight yX8_weight, Cond.code yX8_weight cX8_weight 2 (some .int), Cond.methodLink RX8 244 yX2_weightOf, Cond.methodLink RL 235 yX9_weight, Cond.instanceMethod yX9_weight, Cond.selects RX9 yX9_weight yX9_weight, Cond.code yX9_weight cX9_weight 2 (some .int), Cond.methodLink RL 236 yL_regret, Cond.static yL_regret, Cond.codeWith yL_regret cL_regret 3 (some .int) [(0, 8, 11, 18)], Cond.methodLink RL 86 yX8_regret, Cond.instanceMethod yX8_regret]
def wsL_law0_r42 : List Cond := [Cond.selects RX8 yX8_regret yX8_regret, Cond.code yX8_regret cX8_regret 1 (some .int), Cond.methodLink RX8 250 yX2_leastWrong, Cond.instanceMethod yX2_leastWrong, Cond.selects RX2 yX2_leastWrong yX2_leastWrong, Cond.code yX2_leastWrong cX2_leastWrong 3 (some .int), Cond.methodLink RX2 33 Lib.Math.min.name, Cond.methodLink RL 238 yX9_regret, Cond.instanceMethod yX9_regret, Cond.selects RX9 yX9_regret yX9_regret, Cond.code yX9_regret cX9_regret 4 (some .int), Cond.constant RX9 213 (2147483647), Cond.methodLink RL 239 yL_state, Cond.static yL_state, Cond.codeWith yL_state cL_state 4 (some .int) [(0, 9, 12, 20)], Cond.methodLink RL 89 yX8_state, Cond.instanceMethod yX8_state, Cond.selects RX8 yX8_state yX8_state, Cond.code yX8_state cX8_state 2 (some .int), Cond.methodLink RX8 256 yX3_add, Cond.instanceMethod yX3_add, Cond.selects RX3 yX3_add yX3_add, Cond.code yX3_add cX3_add 3 (some .int), Cond.fieldLink RX3 15 "Queryschool$Machine" "count" "I"]
def wsL_law0_r43 : List Cond := [Cond.fieldLink RX3 23 "Queryschool$Machine" "accepting" "I", Cond.methodLink RL 242 yX9_state, Cond.instanceMethod yX9_state, Cond.selects RX9 yX9_state yX9_state, Cond.code yX9_state cX9_state 2 (some .int), Cond.methodLink RL 243 yL_go, Cond.static yL_go, Cond.codeWith yL_go cL_go 6 (some .int) [(0, 12, 15, 29), (0, 12, 19, 13)], Cond.methodLink RL 93 yX8_go, Cond.instanceMethod yX8_go, Cond.selects RX8 yX8_go yX8_go, Cond.code yX8_go cX8_go 4 (some .int), Cond.methodLink RX8 259 yX3_isState, Cond.instanceMethod yX3_isState, Cond.selects RX3 yX3_isState yX3_isState, Cond.code yX3_isState cX3_isState 2 (some .boolean), Cond.methodLink RX8 266 yX3_lead, Cond.instanceMethod yX3_lead, Cond.selects RX3 yX3_lead yX3_lead, Cond.code yX3_lead cX3_lead 5 (some .int), Cond.methodLink RL 246 yX9_go, Cond.instanceMethod yX9_go, Cond.selects RX9 yX9_go yX9_go, Cond.code yX9_go cX9_go 5 (some .int)]
def wsL_law0_r44 : List Cond := [Cond.methodLink RL 247 yL_accepts, Cond.static yL_accepts, Cond.codeWith yL_accepts cL_accepts 5 (some .int) [(0, 17, 20, 13), (0, 17, 24, 18)], Cond.methodLink RL 97 yX8_accepts, Cond.instanceMethod yX8_accepts, Cond.selects RX8 yX8_accepts yX8_accepts, Cond.code yX8_accepts cX8_accepts 3 (some .boolean), Cond.methodLink RX8 270 yX8_isWord, Cond.static yX8_isWord, Cond.code yX8_isWord cX8_isWord 2 (some .boolean), Cond.methodLink RX8 278 yX3_endsWell, Cond.instanceMethod yX3_endsWell, Cond.selects RX3 yX3_endsWell yX3_endsWell, Cond.code yX3_endsWell cX3_endsWell 4 (some .boolean), Cond.methodLink RX3 30 yX3_end, Cond.static yX3_end, Cond.code yX3_end cX3_end 6 (some .int), Cond.methodLink RL 250 yX9_accepts, Cond.instanceMethod yX9_accepts, Cond.selects RX9 yX9_accepts yX9_accepts, Cond.code yX9_accepts cX9_accepts 3 (some .boolean), Cond.methodLink RX9 216 yX9_isWord, Cond.static yX9_isWord, Cond.code yX9_isWord cX9_isWord 2 (some .boolean)]
def wsL_law0_r45 : List Cond := [Cond.constantLong RX9 214 (8), Cond.methodLink RX9 219 yX9_takes, Cond.instanceMethod yX9_takes, Cond.selects RX9 yX9_takes yX9_takes, Cond.code yX9_takes cX9_takes 5 (some .boolean), Cond.methodLink RL 251 yL_apart, Cond.static yL_apart, Cond.codeWith yL_apart cL_apart 5 (some .int) [(0, 10, 13, 29), (0, 10, 17, 59)], Cond.methodLink RL 101 yX8_apart, Cond.instanceMethod yX8_apart, Cond.selects RX8 yX8_apart yX8_apart, Cond.code yX8_apart cX8_apart 4 (some .int), Cond.methodLink RX8 282 yX3_lengthApart, Cond.instanceMethod yX3_lengthApart, Cond.selects RX3 yX3_lengthApart yX3_lengthApart, Cond.code yX3_lengthApart cX3_lengthApart 5 (some .int), Cond.methodLink RX3 38 yX3_endsWell, Cond.methodLink RL 253 yX9_apart, Cond.instanceMethod yX9_apart, Cond.selects RX9 yX9_apart yX9_apart, Cond.code yX9_apart cX9_apart 3 (some .int), Cond.methodLink RX9 222 yX9_apartBy, Cond.instanceMethod yX9_apartBy, Cond.selects RX9 yX9_apartBy yX9_apartBy]
def wsL_law0_r46 : List Cond := [Cond.code yX9_apartBy cX9_apartBy 9 (some .int), Cond.methodLink RL 254 yL_leastStates, Cond.static yL_leastStates, Cond.codeWith yL_leastStates cL_leastStates 3 (some .int) [(0, 8, 11, 18)], Cond.methodLink RL 105 yX8_leastStates, Cond.instanceMethod yX8_leastStates, Cond.selects RX8 yX8_leastStates yX8_leastStates, Cond.code yX8_leastStates cX8_leastStates 1 (some .int), Cond.methodLink RX8 288 yX3_reachedKinds, Cond.instanceMethod yX3_reachedKinds, Cond.selects RX3 yX3_reachedKinds yX3_reachedKinds, Cond.code yX3_reachedKinds cX3_reachedKinds 4 (some .int), Cond.methodLink RX3 42 yX3_reached, Cond.instanceMethod yX3_reached, Cond.selects RX3 yX3_reached yX3_reached, Cond.code yX3_reached cX3_reached 4 (some .int), Cond.methodLink RX3 46 yX3_isFirstOfKind, Cond.instanceMethod yX3_isFirstOfKind, Cond.selects RX3 yX3_isFirstOfKind yX3_isFirstOfKind, Cond.code yX3_isFirstOfKind cX3_isFirstOfKind 4 (some .boolean), Cond.methodLink RX3 49 yX3_lengthApart, Cond.methodLink RL 256 yX9_leastStates, Cond.instanceMethod yX9_leastStates, Cond.selects RX9 yX9_leastStates yX9_leastStates]
def wsL_law0_r47 : List Cond := [Cond.code yX9_leastStates cX9_leastStates 6 (some .int), Cond.methodLink RX9 225 yX9_reached, Cond.instanceMethod yX9_reached, Cond.selects RX9 yX9_reached yX9_reached, Cond.code yX9_reached cX9_reached 6 (some .int), Cond.methodLink RL 257 yL_sample, Cond.static yL_sample, Cond.codeWith yL_sample cL_sample 6 (some .int) [(0, 12, 15, 13), (0, 12, 19, 18), (0, 12, 23, 20)], Cond.methodLink RL 108 yX8_sample, Cond.instanceMethod yX8_sample, Cond.selects RX8 yX8_sample yX8_sample, Cond.code yX8_sample cX8_sample 4 (some .int), Cond.methodLink RX8 291 yX7_has, Cond.instanceMethod yX7_has, Cond.selects RX7 yX7_has yX7_has, Cond.code yX7_has cX7_has 4 (some .boolean), Cond.fieldLink RX7 25 "Queryschool$Words" "count" "I", Cond.methodLink RX8 299 yX7_add, Cond.instanceMethod yX7_add, Cond.selects RX7 yX7_add yX7_add, Cond.code yX7_add cX7_add 4 (some .int), Cond.fieldLink RX7 36 "Queryschool$Words" "within" "I", Cond.methodLink RL 260 yX9_sample, Cond.instanceMethod yX9_sample]
def wsL_law0_r48 : List Cond := [Cond.selects RX9 yX9_sample yX9_sample, Cond.code yX9_sample cX9_sample 7 (some .int), Cond.methodLink RL 261 yL_fits, Cond.static yL_fits, Cond.codeWith yL_fits cL_fits 3 (some .int) [(0, 15, 18, 18)], Cond.methodLink RL 112 yX8_fits, Cond.instanceMethod yX8_fits, Cond.selects RX8 yX8_fits yX8_fits, Cond.code yX8_fits cX8_fits 1 (some .boolean), Cond.methodLink RX8 302 yX7_areToldBy, Cond.instanceMethod yX7_areToldBy, Cond.selects RX7 yX7_areToldBy yX7_areToldBy, Cond.code yX7_areToldBy cX7_areToldBy 3 (some .boolean), Cond.methodLink RX7 39 yX3_endsWell, Cond.methodLink RL 263 yX9_fits, Cond.instanceMethod yX9_fits, Cond.selects RX9 yX9_fits yX9_fits, Cond.code yX9_fits cX9_fits 4 (some .boolean), Cond.methodLink RL 264 yL_fewest, Cond.static yL_fewest, Cond.codeWith yL_fewest cL_fewest 3 (some .int) [(0, 8, 11, 59)], Cond.methodLink RL 116 yX8_fewest, Cond.instanceMethod yX8_fewest, Cond.selects RX8 yX8_fewest yX8_fewest]
def wsL_law0_r49 : List Cond := [Cond.code yX8_fewest cX8_fewest 2 (some .int), Cond.methodLink RX8 306 yX7_fewestStates, Cond.instanceMethod yX7_fewestStates, Cond.selects RX7 yX7_fewestStates yX7_fewestStates, Cond.code yX7_fewestStates cX7_fewestStates 2 (some .int), Cond.methodLink RX7 49 yX7_areKeptApart, Cond.instanceMethod yX7_areKeptApart, Cond.selects RX7 yX7_areKeptApart yX7_areKeptApart, Cond.code yX7_areKeptApart cX7_areKeptApart 5 (some .boolean), Cond.methodLink RX7 56 yX3_end, Cond.methodLink RX7 53 yX7_turnTrial, Cond.instanceMethod yX7_turnTrial, Cond.selects RX7 yX7_turnTrial yX7_turnTrial, Cond.code yX7_turnTrial cX7_turnTrial 3 none, Cond.methodLink RL 266 yX9_fewest, Cond.instanceMethod yX9_fewest, Cond.selects RX9 yX9_fewest yX9_fewest, Cond.code yX9_fewest cX9_fewest 2 (some .int), Cond.methodLink RX9 232 yX9_canFit, Cond.instanceMethod yX9_canFit, Cond.selects RX9 yX9_canFit yX9_canFit, Cond.code yX9_canFit cX9_canFit 10 (some .boolean), Cond.methodLink RX9 228 yX9_digit, Cond.static yX9_digit]
def wsL_law0_r50 : List Cond := [Cond.code yX9_digit cX9_digit 5 (some .int), Cond.methodLink RL 267 yL_secret, Cond.static yL_secret, Cond.codeWith yL_secret cL_secret 4 (some .int) [(0, 9, 12, 13)], Cond.methodLink RL 119 yX8_secret, Cond.instanceMethod yX8_secret, Cond.selects RX8 yX8_secret yX8_secret, Cond.code yX8_secret cX8_secret 3 (some .int), Cond.methodLink RX8 311 yX0_isCode, Cond.static yX0_isCode, Cond.code yX0_isCode cX0_isCode 1 (some .boolean), Cond.methodLink RX8 319 yX0_startAnew, Cond.instanceMethod yX0_startAnew, Cond.selects RX0 yX0_startAnew yX0_startAnew, Cond.code yX0_startAnew cX0_startAnew 2 none, Cond.fieldLink RX0 19 "Queryschool$Codes" "hidden" "I", Cond.fieldLink RX0 23 "Queryschool$Codes" "hints" "I", Cond.methodLink RX0 15 yX0_packed, Cond.static yX0_packed, Cond.code yX0_packed cX0_packed 1 (some .int), Cond.methodLink RL 269 yX9_secret, Cond.instanceMethod yX9_secret, Cond.selects RX9 yX9_secret yX9_secret, Cond.code yX9_secret cX9_secret 3 (some .int)]
def wsL_law0_r51 : List Cond := [Cond.fieldLink RX9 240 "QueryschoolModel" "secret" "I", Cond.methodLink RX9 237 yX9_isCode, Cond.static yX9_isCode, Cond.code yX9_isCode cX9_isCode 1 (some .boolean), Cond.constantLong RX9 235 (333), Cond.methodLink RL 270 yL_guess, Cond.static yL_guess, Cond.codeWith yL_guess cL_guess 4 (some .int) [(0, 9, 12, 13), (0, 9, 15, 20)], Cond.methodLink RL 122 yX8_guess, Cond.instanceMethod yX8_guess, Cond.selects RX8 yX8_guess yX8_guess, Cond.code yX8_guess cX8_guess 2 (some .int), Cond.methodLink RX8 322 yX0_giveHint, Cond.instanceMethod yX0_giveHint, Cond.selects RX0 yX0_giveHint yX0_giveHint, Cond.code yX0_giveHint cX0_giveHint 5 (some .int), Cond.methodLink RX0 34 yX0_hint, Cond.static yX0_hint, Cond.code yX0_hint cX0_hint 4 (some .int), Cond.methodLink RX0 40 Lib.Math.min.name, Cond.methodLink RX0 30 yX0_digit, Cond.static yX0_digit, Cond.code yX0_digit cX0_digit 2 (some .int), Cond.methodLink RX0 37 yX0_times]
def wsL_law0_r52 : List Cond := [Cond.static yX0_times, Cond.code yX0_times cX0_times 4 (some .int), Cond.methodLink RL 272 yX9_guess, Cond.instanceMethod yX9_guess, Cond.selects RX9 yX9_guess yX9_guess, Cond.code yX9_guess cX9_guess 2 (some .int), Cond.methodLink RX9 243 yX9_hint, Cond.static yX9_hint, Cond.code yX9_hint cX9_hint 8 (some .int), Cond.methodLink RL 273 yX8_possible, Cond.instanceMethod yX8_possible, Cond.selects RX8 yX8_possible yX8_possible, Cond.code yX8_possible cX8_possible 1 (some .int), Cond.methodLink RX8 329 yJ13_bitCount_95d88, Cond.methodLink RL 276 yX9_possible, Cond.instanceMethod yX9_possible, Cond.selects RX9 yX9_possible yX9_possible, Cond.code yX9_possible cX9_possible 1 (some .int), Cond.methodLink RX9 249 yX9_possibleCodes, Cond.instanceMethod yX9_possibleCodes, Cond.selects RX9 yX9_possibleCodes yX9_possibleCodes, Cond.code yX9_possibleCodes cX9_possibleCodes 3 (some .int), Cond.methodLink RX9 246 yX9_isPossible, Cond.instanceMethod yX9_isPossible]
def wsL_law0_r53 : List Cond := [Cond.selects RX9 yX9_isPossible yX9_isPossible, Cond.code yX9_isPossible cX9_isPossible 5 (some .boolean), Cond.methodLink RL 277 yX8_nextCode, Cond.instanceMethod yX8_nextCode, Cond.selects RX8 yX8_nextCode yX8_nextCode, Cond.code yX8_nextCode cX8_nextCode 1 (some .int), Cond.methodLink RX8 334 yX0_leastLeft, Cond.instanceMethod yX0_leastLeft, Cond.selects RX0 yX0_leastLeft yX0_leastLeft, Cond.code yX0_leastLeft cX0_leastLeft 2 (some .int), Cond.methodLink RX0 26 yX0_isLeft, Cond.instanceMethod yX0_isLeft, Cond.selects RX0 yX0_isLeft yX0_isLeft, Cond.code yX0_isLeft cX0_isLeft 2 (some .boolean), Cond.methodLink RL 280 yX9_nextCode, Cond.instanceMethod yX9_nextCode, Cond.selects RX9 yX9_nextCode yX9_nextCode, Cond.code yX9_nextCode cX9_nextCode 2 (some .int), Cond.methodLink RL 281 yL_things, Cond.static yL_things, Cond.codeWith yL_things cL_things 4 (some .int) [(0, 9, 12, 13)], Cond.methodLink RL 125 yX8_things, Cond.instanceMethod yX8_things, Cond.selects RX8 yX8_things yX8_things]
def wsL_law0_r54 : List Cond := [Cond.code yX8_things cX8_things 3 (some .int), Cond.methodLink RX8 340 yX4_startAnew, Cond.instanceMethod yX4_startAnew, Cond.selects RX4 yX4_startAnew yX4_startAnew, Cond.code yX4_startAnew cX4_startAnew 3 none, Cond.methodLink RL 283 yX9_things, Cond.instanceMethod yX9_things, Cond.selects RX9 yX9_things yX9_things, Cond.code yX9_things cX9_things 8 (some .int), Cond.constantLong RX9 252 (5), Cond.methodLink RL 284 yL_ahead, Cond.static yL_ahead, Cond.codeWith yL_ahead cL_ahead 5 (some .int) [(0, 10, 13, 13), (0, 10, 17, 18)], Cond.methodLink RL 128 yX8_ahead, Cond.instanceMethod yX8_ahead, Cond.selects RX8 yX8_ahead yX8_ahead, Cond.code yX8_ahead cX8_ahead 4 (some .int), Cond.methodLink RX8 341 yX4_isThing, Cond.instanceMethod yX4_isThing, Cond.selects RX4 yX4_isThing yX4_isThing, Cond.code yX4_isThing cX4_isThing 2 (some .boolean), Cond.methodLink RX8 346 yX4_ways, Cond.instanceMethod yX4_ways, Cond.selects RX4 yX4_ways yX4_ways]
def wsL_law0_r55 : List Cond := [Cond.code yX4_ways cX4_ways 5 (some .int), Cond.methodLink RX4 30 yX4_line, Cond.instanceMethod yX4_line, Cond.selects RX4 yX4_line yX4_line, Cond.code yX4_line cX4_line 3 none, Cond.methodLink RX4 34 yX4_allWays, Cond.instanceMethod yX4_allWays, Cond.selects RX4 yX4_allWays yX4_allWays, Cond.code yX4_allWays cX4_allWays 2 (some .int), Cond.methodLink RX4 38 yX4_waysToPlace, Cond.instanceMethod yX4_waysToPlace, Cond.selects RX4 yX4_waysToPlace yX4_waysToPlace, Cond.code yX4_waysToPlace cX4_waysToPlace 5 (some .int), Cond.methodLink RX8 351 yX4_line, Cond.methodLink RL 286 yX9_ahead, Cond.instanceMethod yX9_ahead, Cond.selects RX9 yX9_ahead yX9_ahead, Cond.code yX9_ahead cX9_ahead 3 (some .int), Cond.methodLink RX9 257 yX9_isThing, Cond.instanceMethod yX9_isThing, Cond.selects RX9 yX9_isThing yX9_isThing, Cond.code yX9_isThing cX9_isThing 2 (some .boolean), Cond.methodLink RX9 254 yX9_orders, Cond.instanceMethod yX9_orders]
def wsL_law0_r56 : List Cond := [Cond.selects RX9 yX9_orders yX9_orders, Cond.code yX9_orders cX9_orders 8 (some .int), Cond.methodLink RL 287 yX8_orders, Cond.instanceMethod yX8_orders, Cond.selects RX8 yX8_orders yX8_orders, Cond.code yX8_orders cX8_orders 1 (some .int), Cond.methodLink RX8 355 yX4_allWays, Cond.methodLink RL 290 yX9_orders_, Cond.instanceMethod yX9_orders_, Cond.selects RX9 yX9_orders_ yX9_orders_, Cond.code yX9_orders_ cX9_orders_ 1 (some .int), Cond.methodLink RL 291 yL_pair, Cond.static yL_pair, Cond.codeWith yL_pair cL_pair 3 (some .int) [(0, 8, 11, 59)], Cond.methodLink RL 131 yX8_pair, Cond.instanceMethod yX8_pair, Cond.selects RX8 yX8_pair yX8_pair, Cond.code yX8_pair cX8_pair 1 (some .int), Cond.methodLink RX8 360 yX4_bestPair, Cond.instanceMethod yX4_bestPair, Cond.selects RX4 yX4_bestPair yX4_bestPair, Cond.code yX4_bestPair cX4_bestPair 8 (some .int), Cond.methodLink RX4 46 Lib.Math.min.name, Cond.methodLink RX4 42 yX4_ways]
def wsL_law0_r57 : List Cond := [Cond.methodLink RL 293 yX9_pair, Cond.instanceMethod yX9_pair, Cond.selects RX9 yX9_pair yX9_pair, Cond.code yX9_pair cX9_pair 8 (some .int), Cond.methodLink RL 294 yX8_checksum, Cond.instanceMethod yX8_checksum, Cond.selects RX8 yX8_checksum yX8_checksum, Cond.code yX8_checksum cX8_checksum 4 (some .long), Cond.constantLong RX8 363 (7), Cond.constantLong RX8 365 (31), Cond.methodLink RL 298 yX9_checksum, Cond.instanceMethod yX9_checksum, Cond.selects RX9 yX9_checksum yX9_checksum, Cond.code yX9_checksum cX9_checksum 5 (some .long), Cond.constantLong RX9 260 (7), Cond.constantLong RX9 262 (31), Cond.methodLink RL 299 yL_aliveShare, Cond.static yL_aliveShare, Cond.codeWith yL_aliveShare cL_aliveShare 3 (some .int) [(0, 8, 11, 59)], Cond.methodLink RL 134 yX8_aliveShare, Cond.instanceMethod yX8_aliveShare, Cond.selects RX8 yX8_aliveShare yX8_aliveShare, Cond.code yX8_aliveShare cX8_aliveShare 1 (some .float), Cond.methodLink RL 302 yX9_aliveShare]
def wsL_law0_r58 : List Cond := [Cond.instanceMethod yX9_aliveShare, Cond.selects RX9 yX9_aliveShare yX9_aliveShare, Cond.code yX9_aliveShare cX9_aliveShare 1 (some .float), Cond.methodLink RL 303 yL_meanLesson, Cond.static yL_meanLesson, Cond.codeWith yL_meanLesson cL_meanLesson 3 (some .int) [(0, 7, 10, 59)], Cond.methodLink RL 138 yX8_meanLesson, Cond.instanceMethod yX8_meanLesson, Cond.selects RX8 yX8_meanLesson yX8_meanLesson, Cond.code yX8_meanLesson cX8_meanLesson 1 (some .double), Cond.methodLink RX8 367 yX1_lessonSum, Cond.instanceMethod yX1_lessonSum, Cond.selects RX1 yX1_lessonSum yX1_lessonSum, Cond.code yX1_lessonSum cX1_lessonSum 3 (some .int), Cond.methodLink RX1 84 yX1_leastLesson, Cond.methodLink RL 305 yX9_meanLesson, Cond.instanceMethod yX9_meanLesson, Cond.selects RX9 yX9_meanLesson yX9_meanLesson, Cond.code yX9_meanLesson cX9_meanLesson 3 (some .double), Cond.methodLink RL 306 yX8_isSound, Cond.instanceMethod yX8_isSound, Cond.selects RX8 yX8_isSound yX8_isSound, Cond.code yX8_isSound cX8_isSound 1 (some .boolean), Cond.methodLink RX8 370 yX6_areOrdered]
def wsL_law0_r59 : List Cond := [Cond.instanceMethod yX6_areOrdered, Cond.selects RX6 yX6_areOrdered yX6_areOrdered, Cond.code yX6_areOrdered cX6_areOrdered 3 (some .boolean), Cond.methodLink RX6 22 yX6_forcedMistakes, Cond.methodLink RX6 26 yX1_greatestShattered, Cond.methodLink RX6 30 yX6_leastDepth, Cond.methodLink RX8 374 yX5_isHonoured, Cond.instanceMethod yX5_isHonoured, Cond.selects RX5 yX5_isHonoured yX5_isHonoured, Cond.code yX5_isHonoured cX5_isHonoured 1 (some .boolean), Cond.methodLink RX8 380 yX0_isLeft, Cond.methodLink RL 309 yX9_isSound, Cond.instanceMethod yX9_isSound, Cond.selects RX9 yX9_isSound yX9_isSound, Cond.code yX9_isSound cX9_isSound 1 (some .boolean)]
def wsL_law0 : List Cond := (wsL_law0_r1 ++ (wsL_law0_r2 ++ (wsL_law0_r3 ++ (wsL_law0_r4 ++ (wsL_law0_r5 ++ (wsL_law0_r6 ++ (wsL_law0_r7 ++ (wsL_law0_r8 ++ (wsL_law0_r9 ++ (wsL_law0_r10 ++ (wsL_law0_r11 ++ (wsL_law0_r12 ++ (wsL_law0_r13 ++ (wsL_law0_r14 ++ (wsL_law0_r15 ++ (wsL_law0_r16 ++ (wsL_law0_r17 ++ (wsL_law0_r18 ++ (wsL_law0_r19 ++ (wsL_law0_r20 ++ (wsL_law0_r21 ++ (wsL_law0_r22 ++ (wsL_law0_r23 ++ (wsL_law0_r24 ++ (wsL_law0_r25 ++ (wsL_law0_r26 ++ (wsL_law0_r27 ++ (wsL_law0_r28 ++ (wsL_law0_r29 ++ (wsL_law0_r30 ++ (wsL_law0_r31 ++ (wsL_law0_r32 ++ (wsL_law0_r33 ++ (wsL_law0_r34 ++ (wsL_law0_r35 ++ (wsL_law0_r36 ++ (wsL_law0_r37 ++ (wsL_law0_r38 ++ (wsL_law0_r39 ++ (wsL_law0_r40 ++ (wsL_law0_r41 ++ (wsL_law0_r42 ++ (wsL_law0_r43 ++ (wsL_law0_r44 ++ (wsL_law0_r45 ++ (wsL_law0_r46 ++ (wsL_law0_r47 ++ (wsL_law0_r48 ++ (wsL_law0_r49 ++ (wsL_law0_r50 ++ (wsL_law0_r51 ++ (wsL_law0_r52 ++ (wsL_law0_r53 ++ (wsL_law0_r54 ++ (wsL_law0_r55 ++ (wsL_law0_r56 ++ (wsL_law0_r57 ++ (wsL_law0_r58 ++ wsL_law0_r59)))))))))))))))))))))))))))))))))))))))))))))))))))))))))) ++ wsX80 ++ wsX90 ++ wsX50 ++ wsX60 ++ wsX20 ++ wsX30 ++ wsX70 ++ wsX00 ++ wsX40 ++ wsX10 ++ wsJx4a65c0 ++ wsJx354110 ++ wsJ60 ++ ([] : List Cond)
def wsL_law : List Cond := wsL_law0 ++ (vx_atS RX8 67 "java/lang/IllegalArgumentException" ["java/lang/RuntimeException", "java/lang/Exception"]).filter goodWord ++ (vx_atS RX8 100 "java/lang/UnsupportedOperationException" ["java/lang/RuntimeException", "java/lang/Exception"]).filter goodWord ++ (vx_atS RX8 105 "java/lang/IllegalStateException" ["java/lang/RuntimeException", "java/lang/Exception"]).filter goodWord ++ (vx_atS RX8 134 "java/lang/IndexOutOfBoundsException" ["java/lang/RuntimeException", "java/lang/Exception"]).filter goodWord ++ (vx_atS RX8 199 "java/util/NoSuchElementException" ["java/lang/RuntimeException", "java/lang/Exception"]).filter goodWord
set_option maxRecDepth 20000 in
theorem wsL_law_in0 : ∀ w ∈ wsL_law0, w ∈ lw_tbl := fun w h => (goodIn_p wsL_law0 [88, 91, 96, 102, 155, 171, 192, 209, 235, 255, 1188, 1194, 1197, 1200, 477, 551, 368, 556, 560, 1281, 1285, 1289, 1299, 1308, 1277, 570, 574, 579, 338, 315, 615, 618, 1312, 1316, 1320, 1329, 1334, 1358, 1367, 1371, 1392, 1396, 1400, 1404, 398, 1407, 1412, 1415, 1440, 395, 625, 628, 634, 637, 318, 643, 1453, 1458, 1462, 1466, 1472, 1476, 1479, 1482, 1487, 1490, 1496, 1499, 1502, 1505, 1510, 1513, 1516, 1525, 1528, 1531, 1535, 1539, 1543, 1552, 1555, 1565, 652, 656, 1569, 1573, 1576, 1585, 1588, 1591, 1595, 679, 682, 689, 1599, 1609, 697, 1613, 706, 710, 717, 304, 308, 312, 722, 373, 377, 365, 727, 733, 741, 1618, 1622, 1626, 1630, 1634, 1637, 1641, 748, 752, 756, 760, 764, 769, 775, 1647, 1651, 1655, 296, 1660, 782, 1664, 789, 1668, 300, 1672, 797, 801, 1676, 809, 829, 1680, 1684, 837, 841, 1689, 850, 1693, 859, 334, 342, 1697, 1701, 325, 329, 1705, 1709, 867, 871, 875, 1713, 1717, 349, 353, 357, 361, 383, 388, 392, 1721, 1725, 1729, 402, 406, 1733, 1737, 882, 886, 1741, 895, 900, 1745, 908, 914, 918, 452, 1749, 928, 1753, 936, 940, 1757, 948, 953, 1762, 961, 965, 971, 1766, 979, 982, 988, 991, 1770, 1773, 1778, 999, 1003, 1782, 1786, 1012, 1016, 1020, 1024, 1790, 1794, 1032, 1036, 1043, 1798, 1051, 1055, 1802, 1064, 1068, 1072, 1077, 1806, 1810, 1813, 1085, 1088, 1093, 1096, 1817, 1820, 1103, 1108, 1111, 426, 1114, 1825, 1828, 410, 1832, 1836, 1840, 415, 419, 423, 1844, 1122, 1127, 1848, 1134, 1138, 1143, 1147, 434, 439, 1853, 1857, 1861, 430, 1865, 1157, 1162, 1869, 444, 1873, 1171, 1879, 1178, 1182, 1883, 457, 461, 468, 1887] (by decide +kernel) (by decide +kernel) w h).1
theorem wsL_law_x0 : ∀ w ∈ (vx_atS RX8 67 "java/lang/IllegalArgumentException" ["java/lang/RuntimeException", "java/lang/Exception"]).filter goodWord, w ∈ lw_tbl := by decide +kernel
theorem wsL_law_x1 : ∀ w ∈ (vx_atS RX8 100 "java/lang/UnsupportedOperationException" ["java/lang/RuntimeException", "java/lang/Exception"]).filter goodWord, w ∈ lw_tbl := by decide +kernel
theorem wsL_law_x2 : ∀ w ∈ (vx_atS RX8 105 "java/lang/IllegalStateException" ["java/lang/RuntimeException", "java/lang/Exception"]).filter goodWord, w ∈ lw_tbl := by decide +kernel
theorem wsL_law_x3 : ∀ w ∈ (vx_atS RX8 134 "java/lang/IndexOutOfBoundsException" ["java/lang/RuntimeException", "java/lang/Exception"]).filter goodWord, w ∈ lw_tbl := by decide +kernel
theorem wsL_law_x4 : ∀ w ∈ (vx_atS RX8 199 "java/util/NoSuchElementException" ["java/lang/RuntimeException", "java/lang/Exception"]).filter goodWord, w ∈ lw_tbl := by decide +kernel
theorem wsL_law_in : ∀ w ∈ wsL_law, w ∈ lw_tbl := fun w h => (List.mem_append.mp h).elim (fun h => (List.mem_append.mp h).elim (fun h => (List.mem_append.mp h).elim (fun h => (List.mem_append.mp h).elim (fun h => (List.mem_append.mp h).elim (fun h => wsL_law_in0 w h) (fun h => wsL_law_x0 w h)) (fun h => wsL_law_x1 w h)) (fun h => wsL_law_x2 w h)) (fun h => wsL_law_x3 w h)) (fun h => wsL_law_x4 w h)
theorem inlX0 : ∀ w ∈ wsX00, w ∈ wsL_law := fun _ h => List.mem_append_left _ (List.mem_append_left _ (List.mem_append_left _ (List.mem_append_left _ (List.mem_append_left _ (List.mem_append_left _ (List.mem_append_left _ (List.mem_append_left _ (List.mem_append_left _ (List.mem_append_left _ (List.mem_append_left _ (List.mem_append_right _ h)))))))))))
theorem inX0 : ∀ w ∈ wsX00, w ∈ lw_tbl := fun w h => wsL_law_in w (inlX0 w h)
theorem inlX1 : ∀ w ∈ wsX10, w ∈ wsL_law := fun _ h => List.mem_append_left _ (List.mem_append_left _ (List.mem_append_left _ (List.mem_append_left _ (List.mem_append_left _ (List.mem_append_left _ (List.mem_append_left _ (List.mem_append_left _ (List.mem_append_left _ (List.mem_append_right _ h)))))))))
theorem inX1 : ∀ w ∈ wsX10, w ∈ lw_tbl := fun w h => wsL_law_in w (inlX1 w h)
theorem inlX2 : ∀ w ∈ wsX20, w ∈ wsL_law := fun _ h => List.mem_append_left _ (List.mem_append_left _ (List.mem_append_left _ (List.mem_append_left _ (List.mem_append_left _ (List.mem_append_left _ (List.mem_append_left _ (List.mem_append_left _ (List.mem_append_left _ (List.mem_append_left _ (List.mem_append_left _ (List.mem_append_left _ (List.mem_append_left _ (List.mem_append_left _ (List.mem_append_right _ h))))))))))))))
theorem inX2 : ∀ w ∈ wsX20, w ∈ lw_tbl := fun w h => wsL_law_in w (inlX2 w h)
theorem inlX3 : ∀ w ∈ wsX30, w ∈ wsL_law := fun _ h => List.mem_append_left _ (List.mem_append_left _ (List.mem_append_left _ (List.mem_append_left _ (List.mem_append_left _ (List.mem_append_left _ (List.mem_append_left _ (List.mem_append_left _ (List.mem_append_left _ (List.mem_append_left _ (List.mem_append_left _ (List.mem_append_left _ (List.mem_append_left _ (List.mem_append_right _ h)))))))))))))
theorem inX3 : ∀ w ∈ wsX30, w ∈ lw_tbl := fun w h => wsL_law_in w (inlX3 w h)
theorem inlX4 : ∀ w ∈ wsX40, w ∈ wsL_law := fun _ h => List.mem_append_left _ (List.mem_append_left _ (List.mem_append_left _ (List.mem_append_left _ (List.mem_append_left _ (List.mem_append_left _ (List.mem_append_left _ (List.mem_append_left _ (List.mem_append_left _ (List.mem_append_left _ (List.mem_append_right _ h))))))))))
theorem inX4 : ∀ w ∈ wsX40, w ∈ lw_tbl := fun w h => wsL_law_in w (inlX4 w h)
theorem inlX5 : ∀ w ∈ wsX50, w ∈ wsL_law := fun _ h => List.mem_append_left _ (List.mem_append_left _ (List.mem_append_left _ (List.mem_append_left _ (List.mem_append_left _ (List.mem_append_left _ (List.mem_append_left _ (List.mem_append_left _ (List.mem_append_left _ (List.mem_append_left _ (List.mem_append_left _ (List.mem_append_left _ (List.mem_append_left _ (List.mem_append_left _ (List.mem_append_left _ (List.mem_append_left _ (List.mem_append_right _ h))))))))))))))))
theorem inX5 : ∀ w ∈ wsX50, w ∈ lw_tbl := fun w h => wsL_law_in w (inlX5 w h)
theorem inlX6 : ∀ w ∈ wsX60, w ∈ wsL_law := fun _ h => List.mem_append_left _ (List.mem_append_left _ (List.mem_append_left _ (List.mem_append_left _ (List.mem_append_left _ (List.mem_append_left _ (List.mem_append_left _ (List.mem_append_left _ (List.mem_append_left _ (List.mem_append_left _ (List.mem_append_left _ (List.mem_append_left _ (List.mem_append_left _ (List.mem_append_left _ (List.mem_append_left _ (List.mem_append_right _ h)))))))))))))))
theorem inX6 : ∀ w ∈ wsX60, w ∈ lw_tbl := fun w h => wsL_law_in w (inlX6 w h)
theorem inlX7 : ∀ w ∈ wsX70, w ∈ wsL_law := fun _ h => List.mem_append_left _ (List.mem_append_left _ (List.mem_append_left _ (List.mem_append_left _ (List.mem_append_left _ (List.mem_append_left _ (List.mem_append_left _ (List.mem_append_left _ (List.mem_append_left _ (List.mem_append_left _ (List.mem_append_left _ (List.mem_append_left _ (List.mem_append_right _ h))))))))))))
theorem inX7 : ∀ w ∈ wsX70, w ∈ lw_tbl := fun w h => wsL_law_in w (inlX7 w h)
theorem inlX8 : ∀ w ∈ wsX80, w ∈ wsL_law := fun _ h => List.mem_append_left _ (List.mem_append_left _ (List.mem_append_left _ (List.mem_append_left _ (List.mem_append_left _ (List.mem_append_left _ (List.mem_append_left _ (List.mem_append_left _ (List.mem_append_left _ (List.mem_append_left _ (List.mem_append_left _ (List.mem_append_left _ (List.mem_append_left _ (List.mem_append_left _ (List.mem_append_left _ (List.mem_append_left _ (List.mem_append_left _ (List.mem_append_left _ (List.mem_append_right _ h))))))))))))))))))
theorem inX8 : ∀ w ∈ wsX80, w ∈ lw_tbl := fun w h => wsL_law_in w (inlX8 w h)
theorem inlX9 : ∀ w ∈ wsX90, w ∈ wsL_law := fun _ h => List.mem_append_left _ (List.mem_append_left _ (List.mem_append_left _ (List.mem_append_left _ (List.mem_append_left _ (List.mem_append_left _ (List.mem_append_left _ (List.mem_append_left _ (List.mem_append_left _ (List.mem_append_left _ (List.mem_append_left _ (List.mem_append_left _ (List.mem_append_left _ (List.mem_append_left _ (List.mem_append_left _ (List.mem_append_left _ (List.mem_append_left _ (List.mem_append_right _ h)))))))))))))))))
theorem inX9 : ∀ w ∈ wsX90, w ∈ lw_tbl := fun w h => wsL_law_in w (inlX9 w h)
theorem inJx145de : ∀ w ∈ wsJx145de0, w ∈ lw_tbl := by decide +kernel
theorem inJx9f9b0 : ∀ w ∈ wsJx9f9b00, w ∈ lw_tbl := by decide +kernel
theorem inJ11 : ∀ w ∈ wsJ110, w ∈ lw_tbl := by decide +kernel
theorem inJx8e188 : ∀ w ∈ wsJx8e1880, w ∈ lw_tbl := by decide +kernel
theorem inJxb160c : ∀ w ∈ wsJxb160c0, w ∈ lw_tbl := by decide +kernel
theorem inJxabbfe : ∀ w ∈ wsJxabbfe0, w ∈ lw_tbl := by decide +kernel
theorem inlJ6 : ∀ w ∈ wsJ60, w ∈ wsL_law := fun _ h => List.mem_append_left _ (List.mem_append_left _ (List.mem_append_left _ (List.mem_append_left _ (List.mem_append_left _ (List.mem_append_left _ (List.mem_append_right _ h))))))
theorem inJ6 : ∀ w ∈ wsJ60, w ∈ lw_tbl := fun w h => wsL_law_in w (inlJ6 w h)
theorem inJxab1ab : ∀ w ∈ wsJxab1ab0, w ∈ lw_tbl := by decide +kernel
theorem inJ13 : ∀ w ∈ wsJ130, w ∈ lw_tbl := by decide +kernel
theorem inJ9 : ∀ w ∈ wsJ90, w ∈ lw_tbl := by decide +kernel
theorem inJxd2413 : ∀ w ∈ wsJxd24130, w ∈ lw_tbl := by decide +kernel
theorem inJ0 : ∀ w ∈ wsJ00, w ∈ lw_tbl := by decide +kernel
theorem inJ1 : ∀ w ∈ wsJ10, w ∈ lw_tbl := by decide +kernel
theorem inJ2 : ∀ w ∈ wsJ20, w ∈ lw_tbl := by decide +kernel
theorem inJ10 : ∀ w ∈ wsJ100, w ∈ lw_tbl := by decide +kernel
theorem inJxfd54e : ∀ w ∈ wsJxfd54e0, w ∈ lw_tbl := by decide +kernel
theorem inJx3cf43 : ∀ w ∈ wsJx3cf430, w ∈ lw_tbl := by decide +kernel
theorem inJxa1e45 : ∀ w ∈ wsJxa1e450, w ∈ lw_tbl := by decide +kernel
theorem inJxc12de : ∀ w ∈ wsJxc12de0, w ∈ lw_tbl := by decide +kernel
theorem inlJx35411 : ∀ w ∈ wsJx354110, w ∈ wsL_law := fun _ h => List.mem_append_left _ (List.mem_append_left _ (List.mem_append_left _ (List.mem_append_left _ (List.mem_append_left _ (List.mem_append_left _ (List.mem_append_left _ (List.mem_append_right _ h)))))))
theorem inJx35411 : ∀ w ∈ wsJx354110, w ∈ lw_tbl := fun w h => wsL_law_in w (inlJx35411 w h)
theorem inlJx4a65c : ∀ w ∈ wsJx4a65c0, w ∈ wsL_law := fun _ h => List.mem_append_left _ (List.mem_append_left _ (List.mem_append_left _ (List.mem_append_left _ (List.mem_append_left _ (List.mem_append_left _ (List.mem_append_left _ (List.mem_append_left _ (List.mem_append_right _ h))))))))
theorem inJx4a65c : ∀ w ∈ wsJx4a65c0, w ∈ lw_tbl := fun w h => wsL_law_in w (inlJx4a65c w h)
theorem inJ7 : ∀ w ∈ wsJ70, w ∈ lw_tbl := by decide +kernel
theorem inJx5ef63 : ∀ w ∈ wsJx5ef630, w ∈ lw_tbl := by decide +kernel
theorem inJx4d0d8 : ∀ w ∈ wsJx4d0d80, w ∈ lw_tbl := by decide +kernel
theorem inJxbd725 : ∀ w ∈ wsJxbd7250, w ∈ lw_tbl := by decide +kernel
theorem inJ15 : ∀ w ∈ wsJ150, w ∈ lw_tbl := by decide +kernel
theorem inJxf0a74 : ∀ w ∈ wsJxf0a740, w ∈ lw_tbl := by decide +kernel
theorem inJxa66e6 : ∀ w ∈ wsJxa66e60, w ∈ lw_tbl := by decide +kernel
theorem inJ8 : ∀ w ∈ wsJ80, w ∈ lw_tbl := by decide +kernel
theorem inJ3 : ∀ w ∈ wsJ30, w ∈ lw_tbl := by decide +kernel
set_option maxRecDepth 20000 in
theorem ggL_points_X8_points : GoodIn wsL_points wsX8_points := goodIn_ca (goodIn_r _ [6, 7, 8, 9, 10, 11, 12, 13, 14, 15, 16, 17, 18, 19, 5, 20, 21, 22, 23, 24, 25, 26, 27, 28, 29, 30, 31, 32, 33, 34, 35, 36, 37, 38, 39, 40, 41, 42, 43, 44, 45, 46, 47, 48, 49, 50, 51, 52, 53, 54, 55] (by decide +kernel) (by decide +kernel)) (goodIn_sub (fun _ h => List.mem_cons_of_mem _ (List.mem_append_right _ h)) (by decide +kernel))
set_option maxRecDepth 20000 in
theorem gL_points_X8_points : GoodIn wsL_points (wsV RL 7 RX8 yX8_points wsX8_points) := goodIn_app (goodIn_of _ (by decide +kernel)) ggL_points_X8_points
theorem dL_points_0 : decode cL_points 0 = .ok (.aload_n 2, 1) := by decide +kernel
theorem dL_points_1 : decode cL_points 1 = .ok (.iconst 0, 1) := by decide +kernel
theorem dL_points_2 : decode cL_points 2 = .ok (.aload_n 0, 1) := by decide +kernel
theorem dL_points_3 : decode cL_points 3 = .ok (.iload_n 1, 1) := by decide +kernel
theorem dL_points_4 : decode cL_points 4 = .ok (.invokevirtual 7, 3) := by decide +kernel
theorem dL_points_7 : decode cL_points 7 = .ok (.i2l, 1) := by decide +kernel
theorem dL_points_8 : decode cL_points 8 = .ok (.lastore, 1) := by decide +kernel
theorem dL_points_9 : decode cL_points 9 = .ok (.goto 6, 3) := by decide +kernel
theorem dL_points_12 : decode cL_points 12 = .ok (.astore_n 3, 1) := by decide +kernel
theorem dL_points_13 : decode cL_points 13 = .ok (.iconst 1, 1) := by decide +kernel
theorem dL_points_14 : decode cL_points 14 = .ok (.ireturn, 1) := by decide +kernel
theorem dL_points_15 : decode cL_points 15 = .ok (.iconst 0, 1) := by decide +kernel
theorem dL_points_16 : decode cL_points 16 = .ok (.ireturn, 1) := by decide +kernel
set_option maxRecDepth 20000 in
theorem ggL_concept_X8_concept : GoodIn wsL_concept wsX8_concept := goodIn_ca (goodIn_ca (goodIn_ca (goodIn_r _ [8, 9, 10, 11, 12, 13, 14, 15, 16, 17, 18, 19, 20, 21, 22, 23, 24, 25, 26, 27, 28, 29, 30, 31, 32, 33, 7, 34, 35, 36, 37, 38, 39, 40, 41, 42, 43, 44, 45, 46, 47, 48, 49, 50, 51, 52, 53, 54, 55, 56, 57, 58, 59, 60, 61, 62, 63] (by decide +kernel) (by decide +kernel)) (goodIn_sub (fun _ h => List.mem_cons_of_mem _ (List.mem_append_left _ (List.mem_append_left _ (List.mem_append_right _ h)))) (by decide +kernel))) (goodIn_sub (fun _ h => List.mem_cons_of_mem _ (List.mem_append_left _ (List.mem_append_right _ h))) (by decide +kernel))) (goodIn_sub (fun _ h => List.mem_cons_of_mem _ (List.mem_append_right _ h)) (by decide +kernel))
set_option maxRecDepth 20000 in
theorem gL_concept_X8_concept : GoodIn wsL_concept (wsV RL 15 RX8 yX8_concept wsX8_concept) := goodIn_app (goodIn_of _ (by decide +kernel)) ggL_concept_X8_concept
theorem dL_concept_0 : decode cL_concept 0 = .ok (.aload_n 2, 1) := by decide +kernel
theorem dL_concept_1 : decode cL_concept 1 = .ok (.iconst 0, 1) := by decide +kernel
theorem dL_concept_2 : decode cL_concept 2 = .ok (.aload_n 0, 1) := by decide +kernel
theorem dL_concept_3 : decode cL_concept 3 = .ok (.iload_n 1, 1) := by decide +kernel
theorem dL_concept_4 : decode cL_concept 4 = .ok (.invokevirtual 15, 3) := by decide +kernel
theorem dL_concept_7 : decode cL_concept 7 = .ok (.i2l, 1) := by decide +kernel
theorem dL_concept_8 : decode cL_concept 8 = .ok (.lastore, 1) := by decide +kernel
theorem dL_concept_9 : decode cL_concept 9 = .ok (.goto 12, 3) := by decide +kernel
theorem dL_concept_12 : decode cL_concept 12 = .ok (.astore_n 3, 1) := by decide +kernel
theorem dL_concept_13 : decode cL_concept 13 = .ok (.iconst 1, 1) := by decide +kernel
theorem dL_concept_14 : decode cL_concept 14 = .ok (.ireturn, 1) := by decide +kernel
theorem dL_concept_15 : decode cL_concept 15 = .ok (.astore_n 3, 1) := by decide +kernel
theorem dL_concept_16 : decode cL_concept 16 = .ok (.iconst 2, 1) := by decide +kernel
theorem dL_concept_17 : decode cL_concept 17 = .ok (.ireturn, 1) := by decide +kernel
theorem dL_concept_18 : decode cL_concept 18 = .ok (.astore_n 3, 1) := by decide +kernel
theorem dL_concept_19 : decode cL_concept 19 = .ok (.iconst 3, 1) := by decide +kernel
theorem dL_concept_20 : decode cL_concept 20 = .ok (.ireturn, 1) := by decide +kernel
theorem dL_concept_21 : decode cL_concept 21 = .ok (.iconst 0, 1) := by decide +kernel
theorem dL_concept_22 : decode cL_concept 22 = .ok (.ireturn, 1) := by decide +kernel
set_option maxRecDepth 20000 in
theorem ggL_family_X8_family : GoodIn wsL_family wsX8_family := goodIn_ca (goodIn_ca (goodIn_ca (goodIn_r _ [8, 9, 10, 11, 12, 13, 14, 15, 16, 17, 18, 19, 20, 21, 22, 23, 24, 25, 26, 27, 28, 29, 30, 31, 32, 33, 34, 35, 36, 37, 38, 39, 40, 41, 42, 43, 44, 45, 46, 7, 47, 48, 49, 50, 51, 52, 53, 54, 55, 56, 57, 58, 59, 60, 61, 62, 63, 64, 65, 66, 67, 68, 69, 70, 71, 72, 73, 74, 75, 76, 77, 78, 79, 80] (by decide +kernel) (by decide +kernel)) (goodIn_sub (fun _ h => List.mem_cons_of_mem _ (List.mem_append_left _ (List.mem_append_left _ (List.mem_append_right _ h)))) (by decide +kernel))) (goodIn_sub (fun _ h => List.mem_cons_of_mem _ (List.mem_append_left _ (List.mem_append_right _ h))) (by decide +kernel))) (goodIn_sub (fun _ h => List.mem_cons_of_mem _ (List.mem_append_right _ h)) (by decide +kernel))
set_option maxRecDepth 20000 in
theorem gL_family_X8_family : GoodIn wsL_family (wsV RL 22 RX8 yX8_family wsX8_family) := goodIn_app (goodIn_of _ (by decide +kernel)) ggL_family_X8_family
theorem dL_family_0 : decode cL_family 0 = .ok (.aload_n 2, 1) := by decide +kernel
theorem dL_family_1 : decode cL_family 1 = .ok (.iconst 0, 1) := by decide +kernel
theorem dL_family_2 : decode cL_family 2 = .ok (.aload_n 0, 1) := by decide +kernel
theorem dL_family_3 : decode cL_family 3 = .ok (.iload_n 1, 1) := by decide +kernel
theorem dL_family_4 : decode cL_family 4 = .ok (.invokevirtual 22, 3) := by decide +kernel
theorem dL_family_7 : decode cL_family 7 = .ok (.i2l, 1) := by decide +kernel
theorem dL_family_8 : decode cL_family 8 = .ok (.lastore, 1) := by decide +kernel
theorem dL_family_9 : decode cL_family 9 = .ok (.goto 12, 3) := by decide +kernel
theorem dL_family_12 : decode cL_family 12 = .ok (.astore_n 3, 1) := by decide +kernel
theorem dL_family_13 : decode cL_family 13 = .ok (.iconst 1, 1) := by decide +kernel
theorem dL_family_14 : decode cL_family 14 = .ok (.ireturn, 1) := by decide +kernel
theorem dL_family_15 : decode cL_family 15 = .ok (.astore_n 3, 1) := by decide +kernel
theorem dL_family_16 : decode cL_family 16 = .ok (.iconst 2, 1) := by decide +kernel
theorem dL_family_17 : decode cL_family 17 = .ok (.ireturn, 1) := by decide +kernel
theorem dL_family_18 : decode cL_family 18 = .ok (.astore_n 3, 1) := by decide +kernel
theorem dL_family_19 : decode cL_family 19 = .ok (.iconst 3, 1) := by decide +kernel
theorem dL_family_20 : decode cL_family 20 = .ok (.ireturn, 1) := by decide +kernel
theorem dL_family_21 : decode cL_family 21 = .ok (.iconst 0, 1) := by decide +kernel
theorem dL_family_22 : decode cL_family 22 = .ok (.ireturn, 1) := by decide +kernel
set_option maxRecDepth 20000 in
theorem ggL_setOf_X8_setOf : GoodIn wsL_setOf wsX8_setOf := goodIn_ca (goodIn_r _ [6, 7, 8, 9, 10, 11, 12, 13, 14, 15, 16, 17, 18, 19, 20, 21, 5, 22, 23, 24, 25, 26, 27, 28, 29, 30, 31, 32, 33, 34] (by decide +kernel) (by decide +kernel)) (goodIn_sub (fun _ h => List.mem_cons_of_mem _ (List.mem_append_right _ h)) (by decide +kernel))
set_option maxRecDepth 20000 in
theorem gL_setOf_X8_setOf : GoodIn wsL_setOf (wsV RL 26 RX8 yX8_setOf wsX8_setOf) := goodIn_app (goodIn_of _ (by decide +kernel)) ggL_setOf_X8_setOf
theorem dL_setOf_0 : decode cL_setOf 0 = .ok (.aload_n 2, 1) := by decide +kernel
theorem dL_setOf_1 : decode cL_setOf 1 = .ok (.iconst 0, 1) := by decide +kernel
theorem dL_setOf_2 : decode cL_setOf 2 = .ok (.aload_n 0, 1) := by decide +kernel
theorem dL_setOf_3 : decode cL_setOf 3 = .ok (.iload_n 1, 1) := by decide +kernel
theorem dL_setOf_4 : decode cL_setOf 4 = .ok (.invokevirtual 26, 3) := by decide +kernel
theorem dL_setOf_7 : decode cL_setOf 7 = .ok (.i2l, 1) := by decide +kernel
theorem dL_setOf_8 : decode cL_setOf 8 = .ok (.lastore, 1) := by decide +kernel
theorem dL_setOf_9 : decode cL_setOf 9 = .ok (.goto 6, 3) := by decide +kernel
theorem dL_setOf_12 : decode cL_setOf 12 = .ok (.astore_n 3, 1) := by decide +kernel
theorem dL_setOf_13 : decode cL_setOf 13 = .ok (.iconst 1, 1) := by decide +kernel
theorem dL_setOf_14 : decode cL_setOf 14 = .ok (.ireturn, 1) := by decide +kernel
theorem dL_setOf_15 : decode cL_setOf 15 = .ok (.iconst 0, 1) := by decide +kernel
theorem dL_setOf_16 : decode cL_setOf 16 = .ok (.ireturn, 1) := by decide +kernel
set_option maxRecDepth 20000 in
theorem ggL_teach_X8_teach : GoodIn wsL_teach wsX8_teach := goodIn_ca (goodIn_ca (goodIn_ca (goodIn_r _ [8, 9, 10, 11, 12, 13, 14, 15, 16, 17, 18, 19, 20, 21, 22, 23, 24, 25, 26, 27, 28, 29, 30, 31, 32, 33, 34, 35, 36, 37, 38, 39, 40, 41, 7, 42, 43, 44, 45, 46, 47, 48, 49, 50, 51, 52, 53, 54, 55, 56, 57, 58, 59, 60, 61, 62] (by decide +kernel) (by decide +kernel)) (goodIn_sub (fun _ h => List.mem_cons_of_mem _ (List.mem_append_left _ (List.mem_append_left _ (List.mem_append_right _ h)))) (by decide +kernel))) (goodIn_sub (fun _ h => List.mem_cons_of_mem _ (List.mem_append_left _ (List.mem_append_right _ h))) (by decide +kernel))) (goodIn_sub (fun _ h => List.mem_cons_of_mem _ (List.mem_append_right _ h)) (by decide +kernel))
set_option maxRecDepth 20000 in
theorem gL_teach_X8_teach : GoodIn wsL_teach (wsV RL 31 RX8 yX8_teach wsX8_teach) := goodIn_app (goodIn_of _ (by decide +kernel)) ggL_teach_X8_teach
theorem dL_teach_0 : decode cL_teach 0 = .ok (.aload 4, 2) := by decide +kernel
theorem dL_teach_2 : decode cL_teach 2 = .ok (.iconst 0, 1) := by decide +kernel
theorem dL_teach_3 : decode cL_teach 3 = .ok (.aload_n 0, 1) := by decide +kernel
theorem dL_teach_4 : decode cL_teach 4 = .ok (.iload_n 1, 1) := by decide +kernel
theorem dL_teach_5 : decode cL_teach 5 = .ok (.iload_n 2, 1) := by decide +kernel
theorem dL_teach_6 : decode cL_teach 6 = .ok (.iload_n 3, 1) := by decide +kernel
theorem dL_teach_7 : decode cL_teach 7 = .ok (.invokevirtual 31, 3) := by decide +kernel
theorem dL_teach_10 : decode cL_teach 10 = .ok (.ifCond .eq 7, 3) := by decide +kernel
theorem dL_teach_13 : decode cL_teach 13 = .ok (.lconst 1, 1) := by decide +kernel
theorem dL_teach_14 : decode cL_teach 14 = .ok (.goto 4, 3) := by decide +kernel
theorem dL_teach_17 : decode cL_teach 17 = .ok (.lconst 0, 1) := by decide +kernel
theorem dL_teach_18 : decode cL_teach 18 = .ok (.lastore, 1) := by decide +kernel
theorem dL_teach_19 : decode cL_teach 19 = .ok (.goto 15, 3) := by decide +kernel
theorem dL_teach_22 : decode cL_teach 22 = .ok (.astore 5, 2) := by decide +kernel
theorem dL_teach_24 : decode cL_teach 24 = .ok (.iconst 1, 1) := by decide +kernel
theorem dL_teach_25 : decode cL_teach 25 = .ok (.ireturn, 1) := by decide +kernel
theorem dL_teach_26 : decode cL_teach 26 = .ok (.astore 5, 2) := by decide +kernel
theorem dL_teach_28 : decode cL_teach 28 = .ok (.iconst 2, 1) := by decide +kernel
theorem dL_teach_29 : decode cL_teach 29 = .ok (.ireturn, 1) := by decide +kernel
theorem dL_teach_30 : decode cL_teach 30 = .ok (.astore 5, 2) := by decide +kernel
theorem dL_teach_32 : decode cL_teach 32 = .ok (.iconst 3, 1) := by decide +kernel
theorem dL_teach_33 : decode cL_teach 33 = .ok (.ireturn, 1) := by decide +kernel
theorem dL_teach_34 : decode cL_teach 34 = .ok (.iconst 0, 1) := by decide +kernel
theorem dL_teach_35 : decode cL_teach 35 = .ok (.ireturn, 1) := by decide +kernel
set_option maxRecDepth 20000 in
theorem ggL_seed_X8_seed : GoodIn wsL_seed wsX8_seed := goodIn_ca (goodIn_r _ [6, 7, 8, 9, 10, 11, 12, 13, 14, 15, 16, 17, 18, 19, 20, 21, 22, 23, 24, 25, 26] (by decide +kernel) (by decide +kernel)) (goodIn_sub (fun _ h => List.mem_cons_of_mem _ (List.mem_append_right _ h)) (by decide +kernel))
set_option maxRecDepth 20000 in
theorem gL_seed_X8_seed : GoodIn wsL_seed (wsV RL 35 RX8 yX8_seed wsX8_seed) := goodIn_app (goodIn_of _ (by decide +kernel)) ggL_seed_X8_seed
theorem dL_seed_0 : decode cL_seed 0 = .ok (.aload_n 2, 1) := by decide +kernel
theorem dL_seed_1 : decode cL_seed 1 = .ok (.iconst 0, 1) := by decide +kernel
theorem dL_seed_2 : decode cL_seed 2 = .ok (.aload_n 0, 1) := by decide +kernel
theorem dL_seed_3 : decode cL_seed 3 = .ok (.iload_n 1, 1) := by decide +kernel
theorem dL_seed_4 : decode cL_seed 4 = .ok (.invokevirtual 35, 3) := by decide +kernel
theorem dL_seed_7 : decode cL_seed 7 = .ok (.i2l, 1) := by decide +kernel
theorem dL_seed_8 : decode cL_seed 8 = .ok (.lastore, 1) := by decide +kernel
theorem dL_seed_9 : decode cL_seed 9 = .ok (.goto 6, 3) := by decide +kernel
theorem dL_seed_12 : decode cL_seed 12 = .ok (.astore_n 3, 1) := by decide +kernel
theorem dL_seed_13 : decode cL_seed 13 = .ok (.iconst 1, 1) := by decide +kernel
theorem dL_seed_14 : decode cL_seed 14 = .ok (.ireturn, 1) := by decide +kernel
theorem dL_seed_15 : decode cL_seed 15 = .ok (.iconst 0, 1) := by decide +kernel
theorem dL_seed_16 : decode cL_seed 16 = .ok (.ireturn, 1) := by decide +kernel
set_option maxRecDepth 20000 in
theorem ggL_ask_X8_ask : GoodIn wsL_ask wsX8_ask := goodIn_ca (goodIn_ca (goodIn_ca (goodIn_r _ [8, 9, 10, 11, 12, 13, 14, 15, 16, 17, 18, 19, 20, 21, 22, 23, 24, 25, 26, 27, 28, 29, 30, 31, 32, 33, 34, 35, 36, 37, 38, 39, 40, 41, 42, 43, 44, 45, 46, 47, 48, 49, 7, 50, 51, 52, 53, 54, 55, 56, 57, 58, 59, 60, 61, 62, 63, 64, 65, 66, 67, 68, 69, 70, 71, 72, 73, 74, 75, 76, 77, 78, 79, 80, 81, 82, 83, 84, 85, 86, 87, 88, 89, 90, 91, 92, 93, 94, 95, 96, 97, 98, 99, 100, 101, 102, 103, 104, 105, 106, 107, 108, 109, 110, 111, 112, 113, 114, 115, 116, 117, 118, 119, 120, 121, 122, 123] (by decide +kernel) (by decide +kernel)) (goodIn_sub (fun _ h => List.mem_cons_of_mem _ (List.mem_append_left _ (List.mem_append_left _ (List.mem_append_right _ h)))) (by decide +kernel))) (goodIn_sub (fun _ h => List.mem_cons_of_mem _ (List.mem_append_left _ (List.mem_append_right _ h))) (by decide +kernel))) (goodIn_sub (fun _ h => List.mem_cons_of_mem _ (List.mem_append_right _ h)) (by decide +kernel))
set_option maxRecDepth 20000 in
theorem gL_ask_X8_ask : GoodIn wsL_ask (wsV RL 38 RX8 yX8_ask wsX8_ask) := goodIn_app (goodIn_of _ (by decide +kernel)) ggL_ask_X8_ask
theorem dL_ask_0 : decode cL_ask 0 = .ok (.aload_n 2, 1) := by decide +kernel
theorem dL_ask_1 : decode cL_ask 1 = .ok (.iconst 0, 1) := by decide +kernel
theorem dL_ask_2 : decode cL_ask 2 = .ok (.aload_n 0, 1) := by decide +kernel
theorem dL_ask_3 : decode cL_ask 3 = .ok (.iload_n 1, 1) := by decide +kernel
theorem dL_ask_4 : decode cL_ask 4 = .ok (.invokevirtual 38, 3) := by decide +kernel
theorem dL_ask_7 : decode cL_ask 7 = .ok (.ifCond .eq 7, 3) := by decide +kernel
theorem dL_ask_10 : decode cL_ask 10 = .ok (.lconst 1, 1) := by decide +kernel
theorem dL_ask_11 : decode cL_ask 11 = .ok (.goto 4, 3) := by decide +kernel
theorem dL_ask_14 : decode cL_ask 14 = .ok (.lconst 0, 1) := by decide +kernel
theorem dL_ask_15 : decode cL_ask 15 = .ok (.lastore, 1) := by decide +kernel
theorem dL_ask_16 : decode cL_ask 16 = .ok (.goto 12, 3) := by decide +kernel
theorem dL_ask_19 : decode cL_ask 19 = .ok (.astore_n 3, 1) := by decide +kernel
theorem dL_ask_20 : decode cL_ask 20 = .ok (.iconst 1, 1) := by decide +kernel
theorem dL_ask_21 : decode cL_ask 21 = .ok (.ireturn, 1) := by decide +kernel
theorem dL_ask_22 : decode cL_ask 22 = .ok (.astore_n 3, 1) := by decide +kernel
theorem dL_ask_23 : decode cL_ask 23 = .ok (.iconst 2, 1) := by decide +kernel
theorem dL_ask_24 : decode cL_ask 24 = .ok (.ireturn, 1) := by decide +kernel
theorem dL_ask_25 : decode cL_ask 25 = .ok (.astore_n 3, 1) := by decide +kernel
theorem dL_ask_26 : decode cL_ask 26 = .ok (.iconst 3, 1) := by decide +kernel
theorem dL_ask_27 : decode cL_ask 27 = .ok (.ireturn, 1) := by decide +kernel
theorem dL_ask_28 : decode cL_ask 28 = .ok (.iconst 0, 1) := by decide +kernel
theorem dL_ask_29 : decode cL_ask 29 = .ok (.ireturn, 1) := by decide +kernel
set_option maxRecDepth 20000 in
theorem ggL_equal_X8_equal : GoodIn wsL_equal wsX8_equal := goodIn_ca (goodIn_ca (goodIn_ca (goodIn_r _ [8, 9, 10, 11, 12, 13, 14, 15, 16, 17, 18, 19, 20, 21, 22, 23, 24, 25, 26, 27, 28, 29, 30, 31, 32, 33, 34, 35, 36, 37, 38, 39, 40, 41, 42, 43, 44, 45, 46, 47, 48, 49, 50, 51, 52, 53, 54, 7, 55, 56, 57, 58, 59, 60, 61, 62, 63, 64, 65, 66, 67, 68, 69, 70, 71, 72, 73, 74, 75, 76, 77, 78, 79, 80, 81, 82, 83, 84, 85, 86, 87, 88, 89, 90, 91, 92, 93, 94, 95, 96, 97, 98, 99, 100, 101, 102, 103, 104, 105, 106, 107, 108, 109, 110, 111, 112, 113, 114, 115, 116, 117, 118, 119, 120, 121, 122, 123, 124, 125, 126] (by decide +kernel) (by decide +kernel)) (goodIn_sub (fun _ h => List.mem_cons_of_mem _ (List.mem_append_left _ (List.mem_append_left _ (List.mem_append_right _ h)))) (by decide +kernel))) (goodIn_sub (fun _ h => List.mem_cons_of_mem _ (List.mem_append_left _ (List.mem_append_right _ h))) (by decide +kernel))) (goodIn_sub (fun _ h => List.mem_cons_of_mem _ (List.mem_append_right _ h)) (by decide +kernel))
set_option maxRecDepth 20000 in
theorem gL_equal_X8_equal : GoodIn wsL_equal (wsV RL 42 RX8 yX8_equal wsX8_equal) := goodIn_app (goodIn_of _ (by decide +kernel)) ggL_equal_X8_equal
theorem dL_equal_0 : decode cL_equal 0 = .ok (.aload_n 2, 1) := by decide +kernel
theorem dL_equal_1 : decode cL_equal 1 = .ok (.iconst 0, 1) := by decide +kernel
theorem dL_equal_2 : decode cL_equal 2 = .ok (.aload_n 0, 1) := by decide +kernel
theorem dL_equal_3 : decode cL_equal 3 = .ok (.iload_n 1, 1) := by decide +kernel
theorem dL_equal_4 : decode cL_equal 4 = .ok (.invokevirtual 42, 3) := by decide +kernel
theorem dL_equal_7 : decode cL_equal 7 = .ok (.i2l, 1) := by decide +kernel
theorem dL_equal_8 : decode cL_equal 8 = .ok (.lastore, 1) := by decide +kernel
theorem dL_equal_9 : decode cL_equal 9 = .ok (.goto 12, 3) := by decide +kernel
theorem dL_equal_12 : decode cL_equal 12 = .ok (.astore_n 3, 1) := by decide +kernel
theorem dL_equal_13 : decode cL_equal 13 = .ok (.iconst 1, 1) := by decide +kernel
theorem dL_equal_14 : decode cL_equal 14 = .ok (.ireturn, 1) := by decide +kernel
theorem dL_equal_15 : decode cL_equal 15 = .ok (.astore_n 3, 1) := by decide +kernel
theorem dL_equal_16 : decode cL_equal 16 = .ok (.iconst 2, 1) := by decide +kernel
theorem dL_equal_17 : decode cL_equal 17 = .ok (.ireturn, 1) := by decide +kernel
theorem dL_equal_18 : decode cL_equal 18 = .ok (.astore_n 3, 1) := by decide +kernel
theorem dL_equal_19 : decode cL_equal 19 = .ok (.iconst 3, 1) := by decide +kernel
theorem dL_equal_20 : decode cL_equal 20 = .ok (.ireturn, 1) := by decide +kernel
theorem dL_equal_21 : decode cL_equal 21 = .ok (.iconst 0, 1) := by decide +kernel
theorem dL_equal_22 : decode cL_equal 22 = .ok (.ireturn, 1) := by decide +kernel
set_option maxRecDepth 20000 in
theorem ggL_conflicts_X8_conflicts : GoodIn wsL_conflicts wsX8_conflicts := goodIn_ca (goodIn_r _ [6, 7, 8, 9, 10, 11, 12, 13, 14, 15, 16, 17, 18, 19, 20, 21, 22, 23, 5, 24, 25, 26, 27, 28, 29, 30, 31, 32, 33, 34, 35, 36, 37, 38, 39, 40, 41, 42, 43, 44] (by decide +kernel) (by decide +kernel)) (goodIn_sub (fun _ h => List.mem_cons_of_mem _ (List.mem_append_right _ h)) (by decide +kernel))
set_option maxRecDepth 20000 in
theorem gL_conflicts_X8_conflicts : GoodIn wsL_conflicts (wsV RL 45 RX8 yX8_conflicts wsX8_conflicts) := goodIn_app (goodIn_of _ (by decide +kernel)) ggL_conflicts_X8_conflicts
theorem dL_conflicts_0 : decode cL_conflicts 0 = .ok (.aload_n 2, 1) := by decide +kernel
theorem dL_conflicts_1 : decode cL_conflicts 1 = .ok (.iconst 0, 1) := by decide +kernel
theorem dL_conflicts_2 : decode cL_conflicts 2 = .ok (.aload_n 0, 1) := by decide +kernel
theorem dL_conflicts_3 : decode cL_conflicts 3 = .ok (.iload_n 1, 1) := by decide +kernel
theorem dL_conflicts_4 : decode cL_conflicts 4 = .ok (.invokevirtual 45, 3) := by decide +kernel
theorem dL_conflicts_7 : decode cL_conflicts 7 = .ok (.i2l, 1) := by decide +kernel
theorem dL_conflicts_8 : decode cL_conflicts 8 = .ok (.lastore, 1) := by decide +kernel
theorem dL_conflicts_9 : decode cL_conflicts 9 = .ok (.goto 6, 3) := by decide +kernel
theorem dL_conflicts_12 : decode cL_conflicts 12 = .ok (.astore_n 3, 1) := by decide +kernel
theorem dL_conflicts_13 : decode cL_conflicts 13 = .ok (.iconst 1, 1) := by decide +kernel
theorem dL_conflicts_14 : decode cL_conflicts 14 = .ok (.ireturn, 1) := by decide +kernel
theorem dL_conflicts_15 : decode cL_conflicts 15 = .ok (.iconst 0, 1) := by decide +kernel
theorem dL_conflicts_16 : decode cL_conflicts 16 = .ok (.ireturn, 1) := by decide +kernel
set_option maxRecDepth 20000 in
theorem ggL_isAlive_X8_isAlive : GoodIn wsL_isAlive wsX8_isAlive := goodIn_ca (goodIn_r _ [6, 7, 8, 9, 10, 11, 12, 13, 14, 15, 16, 17, 18, 19, 20, 21, 22, 23, 24, 25, 26, 27, 28, 5, 29, 30, 31, 32, 33, 34, 35, 36, 37, 38, 39, 40, 41, 42, 43, 44, 45, 46, 47, 48, 49] (by decide +kernel) (by decide +kernel)) (goodIn_sub (fun _ h => List.mem_cons_of_mem _ (List.mem_append_right _ h)) (by decide +kernel))
set_option maxRecDepth 20000 in
theorem gL_isAlive_X8_isAlive : GoodIn wsL_isAlive (wsV RL 48 RX8 yX8_isAlive wsX8_isAlive) := goodIn_app (goodIn_of _ (by decide +kernel)) ggL_isAlive_X8_isAlive
theorem dL_isAlive_0 : decode cL_isAlive 0 = .ok (.aload_n 2, 1) := by decide +kernel
theorem dL_isAlive_1 : decode cL_isAlive 1 = .ok (.iconst 0, 1) := by decide +kernel
theorem dL_isAlive_2 : decode cL_isAlive 2 = .ok (.aload_n 0, 1) := by decide +kernel
theorem dL_isAlive_3 : decode cL_isAlive 3 = .ok (.iload_n 1, 1) := by decide +kernel
theorem dL_isAlive_4 : decode cL_isAlive 4 = .ok (.invokevirtual 48, 3) := by decide +kernel
theorem dL_isAlive_7 : decode cL_isAlive 7 = .ok (.ifCond .eq 7, 3) := by decide +kernel
theorem dL_isAlive_10 : decode cL_isAlive 10 = .ok (.lconst 1, 1) := by decide +kernel
theorem dL_isAlive_11 : decode cL_isAlive 11 = .ok (.goto 4, 3) := by decide +kernel
theorem dL_isAlive_14 : decode cL_isAlive 14 = .ok (.lconst 0, 1) := by decide +kernel
theorem dL_isAlive_15 : decode cL_isAlive 15 = .ok (.lastore, 1) := by decide +kernel
theorem dL_isAlive_16 : decode cL_isAlive 16 = .ok (.goto 6, 3) := by decide +kernel
theorem dL_isAlive_19 : decode cL_isAlive 19 = .ok (.astore_n 3, 1) := by decide +kernel
theorem dL_isAlive_20 : decode cL_isAlive 20 = .ok (.iconst 1, 1) := by decide +kernel
theorem dL_isAlive_21 : decode cL_isAlive 21 = .ok (.ireturn, 1) := by decide +kernel
theorem dL_isAlive_22 : decode cL_isAlive 22 = .ok (.iconst 0, 1) := by decide +kernel
theorem dL_isAlive_23 : decode cL_isAlive 23 = .ok (.ireturn, 1) := by decide +kernel
set_option maxRecDepth 20000 in
theorem ggL_sure_X8_sure : GoodIn wsL_sure wsX8_sure := goodIn_ca (goodIn_r _ [6, 7, 8, 9, 10, 11, 12, 13, 14, 15, 16, 17, 18, 19, 20, 21, 22, 23, 24, 25, 26, 27, 28, 29, 30, 31, 32, 33, 5, 34, 35, 36, 37, 38, 39, 40, 41, 42, 43, 44, 45, 46, 47, 48, 49, 50, 51, 52, 53, 54, 55, 56, 57, 58, 59, 60, 61, 62, 63] (by decide +kernel) (by decide +kernel)) (goodIn_sub (fun _ h => List.mem_cons_of_mem _ (List.mem_append_right _ h)) (by decide +kernel))
set_option maxRecDepth 20000 in
theorem gL_sure_X8_sure : GoodIn wsL_sure (wsV RL 51 RX8 yX8_sure wsX8_sure) := goodIn_app (goodIn_of _ (by decide +kernel)) ggL_sure_X8_sure
theorem dL_sure_0 : decode cL_sure 0 = .ok (.aload_n 2, 1) := by decide +kernel
theorem dL_sure_1 : decode cL_sure 1 = .ok (.iconst 0, 1) := by decide +kernel
theorem dL_sure_2 : decode cL_sure 2 = .ok (.aload_n 0, 1) := by decide +kernel
theorem dL_sure_3 : decode cL_sure 3 = .ok (.iload_n 1, 1) := by decide +kernel
theorem dL_sure_4 : decode cL_sure 4 = .ok (.invokevirtual 51, 3) := by decide +kernel
theorem dL_sure_7 : decode cL_sure 7 = .ok (.i2l, 1) := by decide +kernel
theorem dL_sure_8 : decode cL_sure 8 = .ok (.lastore, 1) := by decide +kernel
theorem dL_sure_9 : decode cL_sure 9 = .ok (.goto 6, 3) := by decide +kernel
theorem dL_sure_12 : decode cL_sure 12 = .ok (.astore_n 3, 1) := by decide +kernel
theorem dL_sure_13 : decode cL_sure 13 = .ok (.iconst 1, 1) := by decide +kernel
theorem dL_sure_14 : decode cL_sure 14 = .ok (.ireturn, 1) := by decide +kernel
theorem dL_sure_15 : decode cL_sure 15 = .ok (.iconst 0, 1) := by decide +kernel
theorem dL_sure_16 : decode cL_sure 16 = .ok (.ireturn, 1) := by decide +kernel
set_option maxRecDepth 20000 in
theorem ggL_best_X8_best : GoodIn wsL_best wsX8_best := goodIn_ca (goodIn_r _ [6, 7, 8, 9, 10, 11, 12, 13, 14, 15, 16, 17, 18, 19, 20, 21, 22, 23, 24, 25, 26, 27, 5, 28, 29, 30, 31, 32, 33, 34, 35, 36, 37, 38, 39, 40, 41, 42, 43, 44, 45, 46, 47, 48, 49, 50, 51, 52, 53, 54, 55, 56, 57, 58, 59, 60, 61, 62, 63, 64, 65, 66, 67, 68, 69, 70, 71, 72, 73, 74, 75, 76, 77, 78, 79, 80] (by decide +kernel) (by decide +kernel)) (goodIn_sub (fun _ h => List.mem_cons_of_mem _ (List.mem_append_right _ h)) (by decide +kernel))
set_option maxRecDepth 20000 in
theorem gL_best_X8_best : GoodIn wsL_best (wsV RL 55 RX8 yX8_best wsX8_best) := goodIn_app (goodIn_of _ (by decide +kernel)) ggL_best_X8_best
theorem dL_best_0 : decode cL_best 0 = .ok (.aload_n 1, 1) := by decide +kernel
theorem dL_best_1 : decode cL_best 1 = .ok (.iconst 0, 1) := by decide +kernel
theorem dL_best_2 : decode cL_best 2 = .ok (.aload_n 0, 1) := by decide +kernel
theorem dL_best_3 : decode cL_best 3 = .ok (.invokevirtual 55, 3) := by decide +kernel
theorem dL_best_6 : decode cL_best 6 = .ok (.i2l, 1) := by decide +kernel
theorem dL_best_7 : decode cL_best 7 = .ok (.lastore, 1) := by decide +kernel
theorem dL_best_8 : decode cL_best 8 = .ok (.goto 6, 3) := by decide +kernel
theorem dL_best_11 : decode cL_best 11 = .ok (.astore_n 2, 1) := by decide +kernel
theorem dL_best_12 : decode cL_best 12 = .ok (.iconst 1, 1) := by decide +kernel
theorem dL_best_13 : decode cL_best 13 = .ok (.ireturn, 1) := by decide +kernel
theorem dL_best_14 : decode cL_best 14 = .ok (.iconst 0, 1) := by decide +kernel
theorem dL_best_15 : decode cL_best 15 = .ok (.ireturn, 1) := by decide +kernel
set_option maxRecDepth 20000 in
theorem ggL_learn_X8_learn : GoodIn wsL_learn wsX8_learn := goodIn_ca (goodIn_r _ [6, 7, 8, 9, 10, 11, 12, 13, 14, 15, 16, 17, 18, 19, 20, 21, 22, 23, 24, 25, 26, 27, 28, 29, 30, 31, 32, 33, 34, 35, 36, 5, 37, 38, 39, 40, 41, 42, 43, 44, 45, 46, 47, 48, 49, 50, 51, 52, 53, 54, 55, 56, 57, 58, 59, 60, 61, 62, 63, 64, 65, 66, 67, 68, 69, 70, 71, 72, 73, 74, 75, 76, 77, 78, 79, 80, 81, 82, 83, 84, 85, 86, 87, 88, 89, 90, 91, 92, 93, 94, 95, 96, 97, 98, 99, 100, 101, 102, 103, 104, 105, 106, 107, 108, 109, 110, 111, 112, 113, 114, 115, 116, 117, 118, 119, 120, 121, 122, 123, 124, 125] (by decide +kernel) (by decide +kernel)) (goodIn_sub (fun _ h => List.mem_cons_of_mem _ (List.mem_append_right _ h)) (by decide +kernel))
set_option maxRecDepth 20000 in
theorem gL_learn_X8_learn : GoodIn wsL_learn (wsV RL 61 RX8 yX8_learn wsX8_learn) := goodIn_app (goodIn_of _ (by decide +kernel)) ggL_learn_X8_learn
theorem dL_learn_0 : decode cL_learn 0 = .ok (.aload_n 1, 1) := by decide +kernel
theorem dL_learn_1 : decode cL_learn 1 = .ok (.iconst 0, 1) := by decide +kernel
theorem dL_learn_2 : decode cL_learn 2 = .ok (.aload_n 0, 1) := by decide +kernel
theorem dL_learn_3 : decode cL_learn 3 = .ok (.invokevirtual 61, 3) := by decide +kernel
theorem dL_learn_6 : decode cL_learn 6 = .ok (.i2l, 1) := by decide +kernel
theorem dL_learn_7 : decode cL_learn 7 = .ok (.lastore, 1) := by decide +kernel
theorem dL_learn_8 : decode cL_learn 8 = .ok (.goto 6, 3) := by decide +kernel
theorem dL_learn_11 : decode cL_learn 11 = .ok (.astore_n 2, 1) := by decide +kernel
theorem dL_learn_12 : decode cL_learn 12 = .ok (.iconst 1, 1) := by decide +kernel
theorem dL_learn_13 : decode cL_learn 13 = .ok (.ireturn, 1) := by decide +kernel
theorem dL_learn_14 : decode cL_learn 14 = .ok (.iconst 0, 1) := by decide +kernel
theorem dL_learn_15 : decode cL_learn 15 = .ok (.ireturn, 1) := by decide +kernel
set_option maxRecDepth 20000 in
theorem ggL_found_X8_found : GoodIn wsL_found wsX8_found := goodIn_ca (goodIn_r _ [6, 7, 8, 9, 10, 11, 12, 13, 14, 15, 16, 17, 18, 19, 20, 21, 22, 23, 24, 25, 26, 5, 27, 28, 29, 30, 31, 32, 33, 34, 35, 36, 37, 38, 39, 40, 41, 42, 43, 44, 45, 46, 47, 48, 49, 50, 51, 52, 53, 54, 55, 56, 57, 58, 59, 60] (by decide +kernel) (by decide +kernel)) (goodIn_sub (fun _ h => List.mem_cons_of_mem _ (List.mem_append_right _ h)) (by decide +kernel))
set_option maxRecDepth 20000 in
theorem gL_found_X8_found : GoodIn wsL_found (wsV RL 64 RX8 yX8_found wsX8_found) := goodIn_app (goodIn_of _ (by decide +kernel)) ggL_found_X8_found
theorem dL_found_0 : decode cL_found 0 = .ok (.aload_n 1, 1) := by decide +kernel
theorem dL_found_1 : decode cL_found 1 = .ok (.iconst 0, 1) := by decide +kernel
theorem dL_found_2 : decode cL_found 2 = .ok (.aload_n 0, 1) := by decide +kernel
theorem dL_found_3 : decode cL_found 3 = .ok (.invokevirtual 64, 3) := by decide +kernel
theorem dL_found_6 : decode cL_found 6 = .ok (.i2l, 1) := by decide +kernel
theorem dL_found_7 : decode cL_found 7 = .ok (.lastore, 1) := by decide +kernel
theorem dL_found_8 : decode cL_found 8 = .ok (.goto 6, 3) := by decide +kernel
theorem dL_found_11 : decode cL_found 11 = .ok (.astore_n 2, 1) := by decide +kernel
theorem dL_found_12 : decode cL_found 12 = .ok (.iconst 1, 1) := by decide +kernel
theorem dL_found_13 : decode cL_found 13 = .ok (.ireturn, 1) := by decide +kernel
theorem dL_found_14 : decode cL_found 14 = .ok (.iconst 0, 1) := by decide +kernel
theorem dL_found_15 : decode cL_found 15 = .ok (.ireturn, 1) := by decide +kernel
set_option maxRecDepth 20000 in
theorem ggL_isShattered_X8_isShattered : GoodIn wsL_isShattered wsX8_isShattered := goodIn_ca (goodIn_r _ [6, 7, 8, 9, 10, 11, 12, 13, 14, 15, 16, 17, 18, 19, 20, 21, 22, 23, 24, 25, 26, 5, 27, 28, 29, 30, 31, 32, 33, 34, 35, 36, 37, 38, 39, 40, 41, 42, 43, 44, 45, 46, 47, 48, 49, 50, 51, 52, 53] (by decide +kernel) (by decide +kernel)) (goodIn_sub (fun _ h => List.mem_cons_of_mem _ (List.mem_append_right _ h)) (by decide +kernel))
set_option maxRecDepth 20000 in
theorem gL_isShattered_X8_isShattered : GoodIn wsL_isShattered (wsV RL 67 RX8 yX8_isShattered wsX8_isShattered) := goodIn_app (goodIn_of _ (by decide +kernel)) ggL_isShattered_X8_isShattered
theorem dL_isShattered_0 : decode cL_isShattered 0 = .ok (.aload_n 2, 1) := by decide +kernel
theorem dL_isShattered_1 : decode cL_isShattered 1 = .ok (.iconst 0, 1) := by decide +kernel
theorem dL_isShattered_2 : decode cL_isShattered 2 = .ok (.aload_n 0, 1) := by decide +kernel
theorem dL_isShattered_3 : decode cL_isShattered 3 = .ok (.iload_n 1, 1) := by decide +kernel
theorem dL_isShattered_4 : decode cL_isShattered 4 = .ok (.invokevirtual 67, 3) := by decide +kernel
theorem dL_isShattered_7 : decode cL_isShattered 7 = .ok (.ifCond .eq 7, 3) := by decide +kernel
theorem dL_isShattered_10 : decode cL_isShattered 10 = .ok (.lconst 1, 1) := by decide +kernel
theorem dL_isShattered_11 : decode cL_isShattered 11 = .ok (.goto 4, 3) := by decide +kernel
theorem dL_isShattered_14 : decode cL_isShattered 14 = .ok (.lconst 0, 1) := by decide +kernel
theorem dL_isShattered_15 : decode cL_isShattered 15 = .ok (.lastore, 1) := by decide +kernel
theorem dL_isShattered_16 : decode cL_isShattered 16 = .ok (.goto 6, 3) := by decide +kernel
theorem dL_isShattered_19 : decode cL_isShattered 19 = .ok (.astore_n 3, 1) := by decide +kernel
theorem dL_isShattered_20 : decode cL_isShattered 20 = .ok (.iconst 1, 1) := by decide +kernel
theorem dL_isShattered_21 : decode cL_isShattered 21 = .ok (.ireturn, 1) := by decide +kernel
theorem dL_isShattered_22 : decode cL_isShattered 22 = .ok (.iconst 0, 1) := by decide +kernel
theorem dL_isShattered_23 : decode cL_isShattered 23 = .ok (.ireturn, 1) := by decide +kernel
set_option maxRecDepth 20000 in
theorem ggL_lesson_X8_lesson : GoodIn wsL_lesson wsX8_lesson := goodIn_ca (goodIn_r _ [6, 7, 8, 9, 10, 11, 12, 13, 14, 15, 16, 17, 18, 19, 20, 21, 22, 23, 24, 25, 26, 27, 28, 29, 30, 31, 32, 33, 34, 35, 36, 37, 5, 38, 39, 40, 41, 42, 43, 44, 45, 46, 47, 48, 49, 50] (by decide +kernel) (by decide +kernel)) (goodIn_sub (fun _ h => List.mem_cons_of_mem _ (List.mem_append_right _ h)) (by decide +kernel))
set_option maxRecDepth 20000 in
theorem gL_lesson_X8_lesson : GoodIn wsL_lesson (wsV RL 70 RX8 yX8_lesson wsX8_lesson) := goodIn_app (goodIn_of _ (by decide +kernel)) ggL_lesson_X8_lesson
theorem dL_lesson_0 : decode cL_lesson 0 = .ok (.aload_n 2, 1) := by decide +kernel
theorem dL_lesson_1 : decode cL_lesson 1 = .ok (.iconst 0, 1) := by decide +kernel
theorem dL_lesson_2 : decode cL_lesson 2 = .ok (.aload_n 0, 1) := by decide +kernel
theorem dL_lesson_3 : decode cL_lesson 3 = .ok (.iload_n 1, 1) := by decide +kernel
theorem dL_lesson_4 : decode cL_lesson 4 = .ok (.invokevirtual 70, 3) := by decide +kernel
theorem dL_lesson_7 : decode cL_lesson 7 = .ok (.i2l, 1) := by decide +kernel
theorem dL_lesson_8 : decode cL_lesson 8 = .ok (.lastore, 1) := by decide +kernel
theorem dL_lesson_9 : decode cL_lesson 9 = .ok (.goto 6, 3) := by decide +kernel
theorem dL_lesson_12 : decode cL_lesson 12 = .ok (.astore_n 3, 1) := by decide +kernel
theorem dL_lesson_13 : decode cL_lesson 13 = .ok (.iconst 1, 1) := by decide +kernel
theorem dL_lesson_14 : decode cL_lesson 14 = .ok (.ireturn, 1) := by decide +kernel
theorem dL_lesson_15 : decode cL_lesson 15 = .ok (.iconst 0, 1) := by decide +kernel
theorem dL_lesson_16 : decode cL_lesson 16 = .ok (.ireturn, 1) := by decide +kernel
set_option maxRecDepth 20000 in
theorem ggL_halver_X8_halver : GoodIn wsL_halver wsX8_halver := goodIn_ca (goodIn_r _ [6, 7, 8, 9, 10, 11, 12, 13, 14, 15, 16, 17, 18, 19, 20, 21, 22, 23, 24, 25, 26, 5, 27, 28, 29, 30, 31, 32, 33, 34, 35, 36, 37, 38, 39, 40, 41, 42, 43, 44, 45, 46, 47, 48, 49, 50, 51, 52, 53, 54, 55, 56, 57, 58, 59, 60, 61, 62, 63, 64, 65, 66, 67, 68, 69] (by decide +kernel) (by decide +kernel)) (goodIn_sub (fun _ h => List.mem_cons_of_mem _ (List.mem_append_right _ h)) (by decide +kernel))
set_option maxRecDepth 20000 in
theorem gL_halver_X8_halver : GoodIn wsL_halver (wsV RL 73 RX8 yX8_halver wsX8_halver) := goodIn_app (goodIn_of _ (by decide +kernel)) ggL_halver_X8_halver
theorem dL_halver_0 : decode cL_halver 0 = .ok (.aload_n 2, 1) := by decide +kernel
theorem dL_halver_1 : decode cL_halver 1 = .ok (.iconst 0, 1) := by decide +kernel
theorem dL_halver_2 : decode cL_halver 2 = .ok (.aload_n 0, 1) := by decide +kernel
theorem dL_halver_3 : decode cL_halver 3 = .ok (.iload_n 1, 1) := by decide +kernel
theorem dL_halver_4 : decode cL_halver 4 = .ok (.invokevirtual 73, 3) := by decide +kernel
theorem dL_halver_7 : decode cL_halver 7 = .ok (.i2l, 1) := by decide +kernel
theorem dL_halver_8 : decode cL_halver 8 = .ok (.lastore, 1) := by decide +kernel
theorem dL_halver_9 : decode cL_halver 9 = .ok (.goto 6, 3) := by decide +kernel
theorem dL_halver_12 : decode cL_halver 12 = .ok (.astore_n 3, 1) := by decide +kernel
theorem dL_halver_13 : decode cL_halver 13 = .ok (.iconst 1, 1) := by decide +kernel
theorem dL_halver_14 : decode cL_halver 14 = .ok (.ireturn, 1) := by decide +kernel
theorem dL_halver_15 : decode cL_halver 15 = .ok (.iconst 0, 1) := by decide +kernel
theorem dL_halver_16 : decode cL_halver 16 = .ok (.ireturn, 1) := by decide +kernel
set_option maxRecDepth 20000 in
theorem ggL_experts_X8_experts : GoodIn wsL_experts wsX8_experts := goodIn_ca (goodIn_r _ [6, 7, 8, 9, 10, 11, 12, 13, 14, 15, 16, 17, 18, 19, 5, 20, 21, 22, 23, 24, 25, 26, 27, 28, 29, 30, 31, 32] (by decide +kernel) (by decide +kernel)) (goodIn_sub (fun _ h => List.mem_cons_of_mem _ (List.mem_append_right _ h)) (by decide +kernel))
set_option maxRecDepth 20000 in
theorem gL_experts_X8_experts : GoodIn wsL_experts (wsV RL 76 RX8 yX8_experts wsX8_experts) := goodIn_app (goodIn_of _ (by decide +kernel)) ggL_experts_X8_experts
theorem dL_experts_0 : decode cL_experts 0 = .ok (.aload_n 2, 1) := by decide +kernel
theorem dL_experts_1 : decode cL_experts 1 = .ok (.iconst 0, 1) := by decide +kernel
theorem dL_experts_2 : decode cL_experts 2 = .ok (.aload_n 0, 1) := by decide +kernel
theorem dL_experts_3 : decode cL_experts 3 = .ok (.iload_n 1, 1) := by decide +kernel
theorem dL_experts_4 : decode cL_experts 4 = .ok (.invokevirtual 76, 3) := by decide +kernel
theorem dL_experts_7 : decode cL_experts 7 = .ok (.i2l, 1) := by decide +kernel
theorem dL_experts_8 : decode cL_experts 8 = .ok (.lastore, 1) := by decide +kernel
theorem dL_experts_9 : decode cL_experts 9 = .ok (.goto 6, 3) := by decide +kernel
theorem dL_experts_12 : decode cL_experts 12 = .ok (.astore_n 3, 1) := by decide +kernel
theorem dL_experts_13 : decode cL_experts 13 = .ok (.iconst 1, 1) := by decide +kernel
theorem dL_experts_14 : decode cL_experts 14 = .ok (.ireturn, 1) := by decide +kernel
theorem dL_experts_15 : decode cL_experts 15 = .ok (.iconst 0, 1) := by decide +kernel
theorem dL_experts_16 : decode cL_experts 16 = .ok (.ireturn, 1) := by decide +kernel
set_option maxRecDepth 20000 in
theorem ggL_round_X8_round : GoodIn wsL_round wsX8_round := goodIn_ca (goodIn_ca (goodIn_r _ [7, 8, 9, 10, 11, 12, 13, 14, 15, 16, 17, 18, 19, 20, 21, 22, 23, 24, 25, 26, 27, 28, 29, 30, 6, 31, 32, 33, 34, 35, 36, 37, 38, 39, 40, 41, 42, 43, 44, 45, 46, 47, 48, 49, 50, 51] (by decide +kernel) (by decide +kernel)) (goodIn_sub (fun _ h => List.mem_cons_of_mem _ (List.mem_append_left _ (List.mem_append_right _ h))) (by decide +kernel))) (goodIn_sub (fun _ h => List.mem_cons_of_mem _ (List.mem_append_right _ h)) (by decide +kernel))
set_option maxRecDepth 20000 in
theorem gL_round_X8_round : GoodIn wsL_round (wsV RL 79 RX8 yX8_round wsX8_round) := goodIn_app (goodIn_of _ (by decide +kernel)) ggL_round_X8_round
theorem dL_round_0 : decode cL_round 0 = .ok (.aload_n 3, 1) := by decide +kernel
theorem dL_round_1 : decode cL_round 1 = .ok (.iconst 0, 1) := by decide +kernel
theorem dL_round_2 : decode cL_round 2 = .ok (.aload_n 0, 1) := by decide +kernel
theorem dL_round_3 : decode cL_round 3 = .ok (.iload_n 1, 1) := by decide +kernel
theorem dL_round_4 : decode cL_round 4 = .ok (.iload_n 2, 1) := by decide +kernel
theorem dL_round_5 : decode cL_round 5 = .ok (.invokevirtual 79, 3) := by decide +kernel
theorem dL_round_8 : decode cL_round 8 = .ok (.ifCond .eq 7, 3) := by decide +kernel
theorem dL_round_11 : decode cL_round 11 = .ok (.lconst 1, 1) := by decide +kernel
theorem dL_round_12 : decode cL_round 12 = .ok (.goto 4, 3) := by decide +kernel
theorem dL_round_15 : decode cL_round 15 = .ok (.lconst 0, 1) := by decide +kernel
theorem dL_round_16 : decode cL_round 16 = .ok (.lastore, 1) := by decide +kernel
theorem dL_round_17 : decode cL_round 17 = .ok (.goto 11, 3) := by decide +kernel
theorem dL_round_20 : decode cL_round 20 = .ok (.astore 4, 2) := by decide +kernel
theorem dL_round_22 : decode cL_round 22 = .ok (.iconst 1, 1) := by decide +kernel
theorem dL_round_23 : decode cL_round 23 = .ok (.ireturn, 1) := by decide +kernel
theorem dL_round_24 : decode cL_round 24 = .ok (.astore 4, 2) := by decide +kernel
theorem dL_round_26 : decode cL_round 26 = .ok (.iconst 2, 1) := by decide +kernel
theorem dL_round_27 : decode cL_round 27 = .ok (.ireturn, 1) := by decide +kernel
theorem dL_round_28 : decode cL_round 28 = .ok (.iconst 0, 1) := by decide +kernel
theorem dL_round_29 : decode cL_round 29 = .ok (.ireturn, 1) := by decide +kernel
set_option maxRecDepth 20000 in
theorem ggL_weight_X8_weight : GoodIn wsL_weight wsX8_weight := goodIn_ca (goodIn_r _ [6, 7, 8, 9, 10, 11, 12, 13, 14, 15, 16, 5, 17, 18, 19, 20, 21, 22, 23, 24, 25, 26, 27, 28, 29] (by decide +kernel) (by decide +kernel)) (goodIn_sub (fun _ h => List.mem_cons_of_mem _ (List.mem_append_right _ h)) (by decide +kernel))
set_option maxRecDepth 20000 in
theorem gL_weight_X8_weight : GoodIn wsL_weight (wsV RL 83 RX8 yX8_weight wsX8_weight) := goodIn_app (goodIn_of _ (by decide +kernel)) ggL_weight_X8_weight
theorem dL_weight_0 : decode cL_weight 0 = .ok (.aload_n 2, 1) := by decide +kernel
theorem dL_weight_1 : decode cL_weight 1 = .ok (.iconst 0, 1) := by decide +kernel
theorem dL_weight_2 : decode cL_weight 2 = .ok (.aload_n 0, 1) := by decide +kernel
theorem dL_weight_3 : decode cL_weight 3 = .ok (.iload_n 1, 1) := by decide +kernel
theorem dL_weight_4 : decode cL_weight 4 = .ok (.invokevirtual 83, 3) := by decide +kernel
theorem dL_weight_7 : decode cL_weight 7 = .ok (.i2l, 1) := by decide +kernel
theorem dL_weight_8 : decode cL_weight 8 = .ok (.lastore, 1) := by decide +kernel
theorem dL_weight_9 : decode cL_weight 9 = .ok (.goto 6, 3) := by decide +kernel
theorem dL_weight_12 : decode cL_weight 12 = .ok (.astore_n 3, 1) := by decide +kernel
theorem dL_weight_13 : decode cL_weight 13 = .ok (.iconst 1, 1) := by decide +kernel
theorem dL_weight_14 : decode cL_weight 14 = .ok (.ireturn, 1) := by decide +kernel
theorem dL_weight_15 : decode cL_weight 15 = .ok (.iconst 0, 1) := by decide +kernel
theorem dL_weight_16 : decode cL_weight 16 = .ok (.ireturn, 1) := by decide +kernel
set_option maxRecDepth 20000 in
theorem ggL_regret_X8_regret : GoodIn wsL_regret wsX8_regret := goodIn_ca (goodIn_r _ [6, 7, 8, 9, 10, 11, 12, 13, 14, 15, 16, 17, 18, 19, 20, 21, 5, 22, 23, 24, 25, 26, 27, 28, 29, 30, 31, 32, 33, 34] (by decide +kernel) (by decide +kernel)) (goodIn_sub (fun _ h => List.mem_cons_of_mem _ (List.mem_append_right _ h)) (by decide +kernel))
set_option maxRecDepth 20000 in
theorem gL_regret_X8_regret : GoodIn wsL_regret (wsV RL 86 RX8 yX8_regret wsX8_regret) := goodIn_app (goodIn_of _ (by decide +kernel)) ggL_regret_X8_regret
theorem dL_regret_0 : decode cL_regret 0 = .ok (.aload_n 1, 1) := by decide +kernel
theorem dL_regret_1 : decode cL_regret 1 = .ok (.iconst 0, 1) := by decide +kernel
theorem dL_regret_2 : decode cL_regret 2 = .ok (.aload_n 0, 1) := by decide +kernel
theorem dL_regret_3 : decode cL_regret 3 = .ok (.invokevirtual 86, 3) := by decide +kernel
theorem dL_regret_6 : decode cL_regret 6 = .ok (.i2l, 1) := by decide +kernel
theorem dL_regret_7 : decode cL_regret 7 = .ok (.lastore, 1) := by decide +kernel
theorem dL_regret_8 : decode cL_regret 8 = .ok (.goto 6, 3) := by decide +kernel
theorem dL_regret_11 : decode cL_regret 11 = .ok (.astore_n 2, 1) := by decide +kernel
theorem dL_regret_12 : decode cL_regret 12 = .ok (.iconst 1, 1) := by decide +kernel
theorem dL_regret_13 : decode cL_regret 13 = .ok (.ireturn, 1) := by decide +kernel
theorem dL_regret_14 : decode cL_regret 14 = .ok (.iconst 0, 1) := by decide +kernel
theorem dL_regret_15 : decode cL_regret 15 = .ok (.ireturn, 1) := by decide +kernel
set_option maxRecDepth 20000 in
theorem ggL_state_X8_state : GoodIn wsL_state wsX8_state := goodIn_ca (goodIn_r _ [6, 7, 8, 9, 10, 11, 12, 13, 14, 15, 16, 17, 18, 5, 19, 20, 21, 22, 23, 24, 25, 26, 27, 28, 29, 30] (by decide +kernel) (by decide +kernel)) (goodIn_sub (fun _ h => List.mem_cons_of_mem _ (List.mem_append_right _ h)) (by decide +kernel))
set_option maxRecDepth 20000 in
theorem gL_state_X8_state : GoodIn wsL_state (wsV RL 89 RX8 yX8_state wsX8_state) := goodIn_app (goodIn_of _ (by decide +kernel)) ggL_state_X8_state
theorem dL_state_0 : decode cL_state 0 = .ok (.aload_n 2, 1) := by decide +kernel
theorem dL_state_1 : decode cL_state 1 = .ok (.iconst 0, 1) := by decide +kernel
theorem dL_state_2 : decode cL_state 2 = .ok (.aload_n 0, 1) := by decide +kernel
theorem dL_state_3 : decode cL_state 3 = .ok (.iload_n 1, 1) := by decide +kernel
theorem dL_state_4 : decode cL_state 4 = .ok (.invokevirtual 89, 3) := by decide +kernel
theorem dL_state_7 : decode cL_state 7 = .ok (.i2l, 1) := by decide +kernel
theorem dL_state_8 : decode cL_state 8 = .ok (.lastore, 1) := by decide +kernel
theorem dL_state_9 : decode cL_state 9 = .ok (.goto 6, 3) := by decide +kernel
theorem dL_state_12 : decode cL_state 12 = .ok (.astore_n 3, 1) := by decide +kernel
theorem dL_state_13 : decode cL_state 13 = .ok (.iconst 1, 1) := by decide +kernel
theorem dL_state_14 : decode cL_state 14 = .ok (.ireturn, 1) := by decide +kernel
theorem dL_state_15 : decode cL_state 15 = .ok (.iconst 0, 1) := by decide +kernel
theorem dL_state_16 : decode cL_state 16 = .ok (.ireturn, 1) := by decide +kernel
set_option maxRecDepth 20000 in
theorem ggL_go_X8_go : GoodIn wsL_go wsX8_go := goodIn_ca (goodIn_ca (goodIn_r _ [7, 8, 9, 10, 11, 12, 13, 14, 15, 16, 17, 18, 19, 20, 21, 22, 23, 24, 6, 25, 26, 27, 28, 29, 30, 31, 32, 33, 34, 35, 36, 37, 38] (by decide +kernel) (by decide +kernel)) (goodIn_sub (fun _ h => List.mem_cons_of_mem _ (List.mem_append_left _ (List.mem_append_right _ h))) (by decide +kernel))) (goodIn_sub (fun _ h => List.mem_cons_of_mem _ (List.mem_append_right _ h)) (by decide +kernel))
set_option maxRecDepth 20000 in
theorem gL_go_X8_go : GoodIn wsL_go (wsV RL 93 RX8 yX8_go wsX8_go) := goodIn_app (goodIn_of _ (by decide +kernel)) ggL_go_X8_go
theorem dL_go_0 : decode cL_go 0 = .ok (.aload 4, 2) := by decide +kernel
theorem dL_go_2 : decode cL_go 2 = .ok (.iconst 0, 1) := by decide +kernel
theorem dL_go_3 : decode cL_go 3 = .ok (.aload_n 0, 1) := by decide +kernel
theorem dL_go_4 : decode cL_go 4 = .ok (.iload_n 1, 1) := by decide +kernel
theorem dL_go_5 : decode cL_go 5 = .ok (.iload_n 2, 1) := by decide +kernel
theorem dL_go_6 : decode cL_go 6 = .ok (.iload_n 3, 1) := by decide +kernel
theorem dL_go_7 : decode cL_go 7 = .ok (.invokevirtual 93, 3) := by decide +kernel
theorem dL_go_10 : decode cL_go 10 = .ok (.i2l, 1) := by decide +kernel
theorem dL_go_11 : decode cL_go 11 = .ok (.lastore, 1) := by decide +kernel
theorem dL_go_12 : decode cL_go 12 = .ok (.goto 11, 3) := by decide +kernel
theorem dL_go_15 : decode cL_go 15 = .ok (.astore 5, 2) := by decide +kernel
theorem dL_go_17 : decode cL_go 17 = .ok (.iconst 1, 1) := by decide +kernel
theorem dL_go_18 : decode cL_go 18 = .ok (.ireturn, 1) := by decide +kernel
theorem dL_go_19 : decode cL_go 19 = .ok (.astore 5, 2) := by decide +kernel
theorem dL_go_21 : decode cL_go 21 = .ok (.iconst 2, 1) := by decide +kernel
theorem dL_go_22 : decode cL_go 22 = .ok (.ireturn, 1) := by decide +kernel
theorem dL_go_23 : decode cL_go 23 = .ok (.iconst 0, 1) := by decide +kernel
theorem dL_go_24 : decode cL_go 24 = .ok (.ireturn, 1) := by decide +kernel
set_option maxRecDepth 20000 in
theorem ggL_accepts_X8_accepts : GoodIn wsL_accepts wsX8_accepts := goodIn_ca (goodIn_ca (goodIn_r _ [7, 8, 9, 10, 11, 12, 13, 14, 6, 15, 16, 17, 18, 19, 20, 21, 22, 23, 24, 25, 26, 27, 28, 29, 30, 31, 32, 33, 34, 35, 36, 37, 38, 39, 40] (by decide +kernel) (by decide +kernel)) (goodIn_sub (fun _ h => List.mem_cons_of_mem _ (List.mem_append_left _ (List.mem_append_right _ h))) (by decide +kernel))) (goodIn_sub (fun _ h => List.mem_cons_of_mem _ (List.mem_append_right _ h)) (by decide +kernel))
set_option maxRecDepth 20000 in
theorem gL_accepts_X8_accepts : GoodIn wsL_accepts (wsV RL 97 RX8 yX8_accepts wsX8_accepts) := goodIn_app (goodIn_of _ (by decide +kernel)) ggL_accepts_X8_accepts
theorem dL_accepts_0 : decode cL_accepts 0 = .ok (.aload_n 3, 1) := by decide +kernel
theorem dL_accepts_1 : decode cL_accepts 1 = .ok (.iconst 0, 1) := by decide +kernel
theorem dL_accepts_2 : decode cL_accepts 2 = .ok (.aload_n 0, 1) := by decide +kernel
theorem dL_accepts_3 : decode cL_accepts 3 = .ok (.iload_n 1, 1) := by decide +kernel
theorem dL_accepts_4 : decode cL_accepts 4 = .ok (.iload_n 2, 1) := by decide +kernel
theorem dL_accepts_5 : decode cL_accepts 5 = .ok (.invokevirtual 97, 3) := by decide +kernel
theorem dL_accepts_8 : decode cL_accepts 8 = .ok (.ifCond .eq 7, 3) := by decide +kernel
theorem dL_accepts_11 : decode cL_accepts 11 = .ok (.lconst 1, 1) := by decide +kernel
theorem dL_accepts_12 : decode cL_accepts 12 = .ok (.goto 4, 3) := by decide +kernel
theorem dL_accepts_15 : decode cL_accepts 15 = .ok (.lconst 0, 1) := by decide +kernel
theorem dL_accepts_16 : decode cL_accepts 16 = .ok (.lastore, 1) := by decide +kernel
theorem dL_accepts_17 : decode cL_accepts 17 = .ok (.goto 11, 3) := by decide +kernel
theorem dL_accepts_20 : decode cL_accepts 20 = .ok (.astore 4, 2) := by decide +kernel
theorem dL_accepts_22 : decode cL_accepts 22 = .ok (.iconst 1, 1) := by decide +kernel
theorem dL_accepts_23 : decode cL_accepts 23 = .ok (.ireturn, 1) := by decide +kernel
theorem dL_accepts_24 : decode cL_accepts 24 = .ok (.astore 4, 2) := by decide +kernel
theorem dL_accepts_26 : decode cL_accepts 26 = .ok (.iconst 2, 1) := by decide +kernel
theorem dL_accepts_27 : decode cL_accepts 27 = .ok (.ireturn, 1) := by decide +kernel
theorem dL_accepts_28 : decode cL_accepts 28 = .ok (.iconst 0, 1) := by decide +kernel
theorem dL_accepts_29 : decode cL_accepts 29 = .ok (.ireturn, 1) := by decide +kernel
set_option maxRecDepth 20000 in
theorem ggL_apart_X8_apart : GoodIn wsL_apart wsX8_apart := goodIn_ca (goodIn_ca (goodIn_r _ [7, 8, 9, 10, 11, 12, 13, 14, 15, 16, 17, 18, 19, 20, 21, 22, 23, 24, 25, 26, 27, 28, 29, 30, 31, 32, 6, 33, 34, 35, 36, 37, 38, 39, 40, 41, 42, 43, 44, 45, 46] (by decide +kernel) (by decide +kernel)) (goodIn_sub (fun _ h => List.mem_cons_of_mem _ (List.mem_append_left _ (List.mem_append_right _ h))) (by decide +kernel))) (goodIn_sub (fun _ h => List.mem_cons_of_mem _ (List.mem_append_right _ h)) (by decide +kernel))
set_option maxRecDepth 20000 in
theorem gL_apart_X8_apart : GoodIn wsL_apart (wsV RL 101 RX8 yX8_apart wsX8_apart) := goodIn_app (goodIn_of _ (by decide +kernel)) ggL_apart_X8_apart
theorem dL_apart_0 : decode cL_apart 0 = .ok (.aload_n 3, 1) := by decide +kernel
theorem dL_apart_1 : decode cL_apart 1 = .ok (.iconst 0, 1) := by decide +kernel
theorem dL_apart_2 : decode cL_apart 2 = .ok (.aload_n 0, 1) := by decide +kernel
theorem dL_apart_3 : decode cL_apart 3 = .ok (.iload_n 1, 1) := by decide +kernel
theorem dL_apart_4 : decode cL_apart 4 = .ok (.iload_n 2, 1) := by decide +kernel
theorem dL_apart_5 : decode cL_apart 5 = .ok (.invokevirtual 101, 3) := by decide +kernel
theorem dL_apart_8 : decode cL_apart 8 = .ok (.i2l, 1) := by decide +kernel
theorem dL_apart_9 : decode cL_apart 9 = .ok (.lastore, 1) := by decide +kernel
theorem dL_apart_10 : decode cL_apart 10 = .ok (.goto 11, 3) := by decide +kernel
theorem dL_apart_13 : decode cL_apart 13 = .ok (.astore 4, 2) := by decide +kernel
theorem dL_apart_15 : decode cL_apart 15 = .ok (.iconst 1, 1) := by decide +kernel
theorem dL_apart_16 : decode cL_apart 16 = .ok (.ireturn, 1) := by decide +kernel
theorem dL_apart_17 : decode cL_apart 17 = .ok (.astore 4, 2) := by decide +kernel
theorem dL_apart_19 : decode cL_apart 19 = .ok (.iconst 2, 1) := by decide +kernel
theorem dL_apart_20 : decode cL_apart 20 = .ok (.ireturn, 1) := by decide +kernel
theorem dL_apart_21 : decode cL_apart 21 = .ok (.iconst 0, 1) := by decide +kernel
theorem dL_apart_22 : decode cL_apart 22 = .ok (.ireturn, 1) := by decide +kernel
set_option maxRecDepth 20000 in
theorem ggL_leastStates_X8_leastStates : GoodIn wsL_leastStates wsX8_leastStates := goodIn_ca (goodIn_r _ [6, 7, 8, 9, 10, 11, 12, 13, 14, 15, 16, 17, 18, 19, 20, 21, 5, 22, 23, 24, 25, 26, 27, 28, 29, 30, 31, 32, 33, 34, 35, 36, 37, 38, 39, 40, 41, 42, 43, 44, 45, 46, 47, 48, 49, 50, 51] (by decide +kernel) (by decide +kernel)) (goodIn_sub (fun _ h => List.mem_cons_of_mem _ (List.mem_append_right _ h)) (by decide +kernel))
set_option maxRecDepth 20000 in
theorem gL_leastStates_X8_leastStates : GoodIn wsL_leastStates (wsV RL 105 RX8 yX8_leastStates wsX8_leastStates) := goodIn_app (goodIn_of _ (by decide +kernel)) ggL_leastStates_X8_leastStates
theorem dL_leastStates_0 : decode cL_leastStates 0 = .ok (.aload_n 1, 1) := by decide +kernel
theorem dL_leastStates_1 : decode cL_leastStates 1 = .ok (.iconst 0, 1) := by decide +kernel
theorem dL_leastStates_2 : decode cL_leastStates 2 = .ok (.aload_n 0, 1) := by decide +kernel
theorem dL_leastStates_3 : decode cL_leastStates 3 = .ok (.invokevirtual 105, 3) := by decide +kernel
theorem dL_leastStates_6 : decode cL_leastStates 6 = .ok (.i2l, 1) := by decide +kernel
theorem dL_leastStates_7 : decode cL_leastStates 7 = .ok (.lastore, 1) := by decide +kernel
theorem dL_leastStates_8 : decode cL_leastStates 8 = .ok (.goto 6, 3) := by decide +kernel
theorem dL_leastStates_11 : decode cL_leastStates 11 = .ok (.astore_n 2, 1) := by decide +kernel
theorem dL_leastStates_12 : decode cL_leastStates 12 = .ok (.iconst 1, 1) := by decide +kernel
theorem dL_leastStates_13 : decode cL_leastStates 13 = .ok (.ireturn, 1) := by decide +kernel
theorem dL_leastStates_14 : decode cL_leastStates 14 = .ok (.iconst 0, 1) := by decide +kernel
theorem dL_leastStates_15 : decode cL_leastStates 15 = .ok (.ireturn, 1) := by decide +kernel
set_option maxRecDepth 20000 in
theorem ggL_sample_X8_sample : GoodIn wsL_sample wsX8_sample := goodIn_ca (goodIn_ca (goodIn_ca (goodIn_r _ [8, 9, 10, 11, 12, 13, 14, 15, 16, 17, 7, 18, 19, 20, 21, 22, 23, 24, 25, 26, 27, 28, 29, 30, 31, 32, 33, 34, 35, 36, 37, 38, 39, 40, 41, 42, 43, 44, 45, 46, 47, 48, 49] (by decide +kernel) (by decide +kernel)) (goodIn_sub (fun _ h => List.mem_cons_of_mem _ (List.mem_append_left _ (List.mem_append_left _ (List.mem_append_right _ h)))) (by decide +kernel))) (goodIn_sub (fun _ h => List.mem_cons_of_mem _ (List.mem_append_left _ (List.mem_append_right _ h))) (by decide +kernel))) (goodIn_sub (fun _ h => List.mem_cons_of_mem _ (List.mem_append_right _ h)) (by decide +kernel))
set_option maxRecDepth 20000 in
theorem gL_sample_X8_sample : GoodIn wsL_sample (wsV RL 108 RX8 yX8_sample wsX8_sample) := goodIn_app (goodIn_of _ (by decide +kernel)) ggL_sample_X8_sample
theorem dL_sample_0 : decode cL_sample 0 = .ok (.aload 4, 2) := by decide +kernel
theorem dL_sample_2 : decode cL_sample 2 = .ok (.iconst 0, 1) := by decide +kernel
theorem dL_sample_3 : decode cL_sample 3 = .ok (.aload_n 0, 1) := by decide +kernel
theorem dL_sample_4 : decode cL_sample 4 = .ok (.iload_n 1, 1) := by decide +kernel
theorem dL_sample_5 : decode cL_sample 5 = .ok (.iload_n 2, 1) := by decide +kernel
theorem dL_sample_6 : decode cL_sample 6 = .ok (.iload_n 3, 1) := by decide +kernel
theorem dL_sample_7 : decode cL_sample 7 = .ok (.invokevirtual 108, 3) := by decide +kernel
theorem dL_sample_10 : decode cL_sample 10 = .ok (.i2l, 1) := by decide +kernel
theorem dL_sample_11 : decode cL_sample 11 = .ok (.lastore, 1) := by decide +kernel
theorem dL_sample_12 : decode cL_sample 12 = .ok (.goto 15, 3) := by decide +kernel
theorem dL_sample_15 : decode cL_sample 15 = .ok (.astore 5, 2) := by decide +kernel
theorem dL_sample_17 : decode cL_sample 17 = .ok (.iconst 1, 1) := by decide +kernel
theorem dL_sample_18 : decode cL_sample 18 = .ok (.ireturn, 1) := by decide +kernel
theorem dL_sample_19 : decode cL_sample 19 = .ok (.astore 5, 2) := by decide +kernel
theorem dL_sample_21 : decode cL_sample 21 = .ok (.iconst 2, 1) := by decide +kernel
theorem dL_sample_22 : decode cL_sample 22 = .ok (.ireturn, 1) := by decide +kernel
theorem dL_sample_23 : decode cL_sample 23 = .ok (.astore 5, 2) := by decide +kernel
theorem dL_sample_25 : decode cL_sample 25 = .ok (.iconst 3, 1) := by decide +kernel
theorem dL_sample_26 : decode cL_sample 26 = .ok (.ireturn, 1) := by decide +kernel
theorem dL_sample_27 : decode cL_sample 27 = .ok (.iconst 0, 1) := by decide +kernel
theorem dL_sample_28 : decode cL_sample 28 = .ok (.ireturn, 1) := by decide +kernel
set_option maxRecDepth 20000 in
theorem ggL_fits_X8_fits : GoodIn wsL_fits wsX8_fits := goodIn_ca (goodIn_r _ [6, 7, 8, 9, 10, 11, 12, 13, 14, 15, 16, 17, 18, 19, 20, 5, 21, 22, 23, 24, 25, 26, 27, 28, 29, 30, 31, 32, 33, 34, 35, 36, 37, 38, 39, 40, 41, 42, 43, 44, 45, 46, 47, 48, 49, 50] (by decide +kernel) (by decide +kernel)) (goodIn_sub (fun _ h => List.mem_cons_of_mem _ (List.mem_append_right _ h)) (by decide +kernel))
set_option maxRecDepth 20000 in
theorem gL_fits_X8_fits : GoodIn wsL_fits (wsV RL 112 RX8 yX8_fits wsX8_fits) := goodIn_app (goodIn_of _ (by decide +kernel)) ggL_fits_X8_fits
theorem dL_fits_0 : decode cL_fits 0 = .ok (.aload_n 1, 1) := by decide +kernel
theorem dL_fits_1 : decode cL_fits 1 = .ok (.iconst 0, 1) := by decide +kernel
theorem dL_fits_2 : decode cL_fits 2 = .ok (.aload_n 0, 1) := by decide +kernel
theorem dL_fits_3 : decode cL_fits 3 = .ok (.invokevirtual 112, 3) := by decide +kernel
theorem dL_fits_6 : decode cL_fits 6 = .ok (.ifCond .eq 7, 3) := by decide +kernel
theorem dL_fits_9 : decode cL_fits 9 = .ok (.lconst 1, 1) := by decide +kernel
theorem dL_fits_10 : decode cL_fits 10 = .ok (.goto 4, 3) := by decide +kernel
theorem dL_fits_13 : decode cL_fits 13 = .ok (.lconst 0, 1) := by decide +kernel
theorem dL_fits_14 : decode cL_fits 14 = .ok (.lastore, 1) := by decide +kernel
theorem dL_fits_15 : decode cL_fits 15 = .ok (.goto 6, 3) := by decide +kernel
theorem dL_fits_18 : decode cL_fits 18 = .ok (.astore_n 2, 1) := by decide +kernel
theorem dL_fits_19 : decode cL_fits 19 = .ok (.iconst 1, 1) := by decide +kernel
theorem dL_fits_20 : decode cL_fits 20 = .ok (.ireturn, 1) := by decide +kernel
theorem dL_fits_21 : decode cL_fits 21 = .ok (.iconst 0, 1) := by decide +kernel
theorem dL_fits_22 : decode cL_fits 22 = .ok (.ireturn, 1) := by decide +kernel
set_option maxRecDepth 20000 in
theorem ggL_fewest_X8_fewest : GoodIn wsL_fewest wsX8_fewest := goodIn_ca (goodIn_r _ [6, 7, 8, 9, 10, 11, 12, 13, 14, 15, 16, 17, 18, 19, 20, 21, 22, 23, 24, 25, 5, 26, 27, 28, 29, 30, 31, 32, 33, 34, 35, 36, 37, 38, 39, 40, 41, 42, 43, 44, 45, 46, 47, 48, 49, 50, 51, 52] (by decide +kernel) (by decide +kernel)) (goodIn_sub (fun _ h => List.mem_cons_of_mem _ (List.mem_append_right _ h)) (by decide +kernel))
set_option maxRecDepth 20000 in
theorem gL_fewest_X8_fewest : GoodIn wsL_fewest (wsV RL 116 RX8 yX8_fewest wsX8_fewest) := goodIn_app (goodIn_of _ (by decide +kernel)) ggL_fewest_X8_fewest
theorem dL_fewest_0 : decode cL_fewest 0 = .ok (.aload_n 1, 1) := by decide +kernel
theorem dL_fewest_1 : decode cL_fewest 1 = .ok (.iconst 0, 1) := by decide +kernel
theorem dL_fewest_2 : decode cL_fewest 2 = .ok (.aload_n 0, 1) := by decide +kernel
theorem dL_fewest_3 : decode cL_fewest 3 = .ok (.invokevirtual 116, 3) := by decide +kernel
theorem dL_fewest_6 : decode cL_fewest 6 = .ok (.i2l, 1) := by decide +kernel
theorem dL_fewest_7 : decode cL_fewest 7 = .ok (.lastore, 1) := by decide +kernel
theorem dL_fewest_8 : decode cL_fewest 8 = .ok (.goto 6, 3) := by decide +kernel
theorem dL_fewest_11 : decode cL_fewest 11 = .ok (.astore_n 2, 1) := by decide +kernel
theorem dL_fewest_12 : decode cL_fewest 12 = .ok (.iconst 1, 1) := by decide +kernel
theorem dL_fewest_13 : decode cL_fewest 13 = .ok (.ireturn, 1) := by decide +kernel
theorem dL_fewest_14 : decode cL_fewest 14 = .ok (.iconst 0, 1) := by decide +kernel
theorem dL_fewest_15 : decode cL_fewest 15 = .ok (.ireturn, 1) := by decide +kernel
set_option maxRecDepth 20000 in
theorem ggL_secret_X8_secret : GoodIn wsL_secret wsX8_secret := goodIn_ca (goodIn_r _ [6, 7, 8, 9, 10, 11, 12, 13, 14, 15, 16, 17, 18, 19, 20, 21, 22, 23, 24, 25, 26, 27, 28, 29, 30, 31, 32, 33, 34, 35] (by decide +kernel) (by decide +kernel)) (goodIn_sub (fun _ h => List.mem_cons_of_mem _ (List.mem_append_right _ h)) (by decide +kernel))
set_option maxRecDepth 20000 in
theorem gL_secret_X8_secret : GoodIn wsL_secret (wsV RL 119 RX8 yX8_secret wsX8_secret) := goodIn_app (goodIn_of _ (by decide +kernel)) ggL_secret_X8_secret
theorem dL_secret_0 : decode cL_secret 0 = .ok (.aload_n 2, 1) := by decide +kernel
theorem dL_secret_1 : decode cL_secret 1 = .ok (.iconst 0, 1) := by decide +kernel
theorem dL_secret_2 : decode cL_secret 2 = .ok (.aload_n 0, 1) := by decide +kernel
theorem dL_secret_3 : decode cL_secret 3 = .ok (.iload_n 1, 1) := by decide +kernel
theorem dL_secret_4 : decode cL_secret 4 = .ok (.invokevirtual 119, 3) := by decide +kernel
theorem dL_secret_7 : decode cL_secret 7 = .ok (.i2l, 1) := by decide +kernel
theorem dL_secret_8 : decode cL_secret 8 = .ok (.lastore, 1) := by decide +kernel
theorem dL_secret_9 : decode cL_secret 9 = .ok (.goto 6, 3) := by decide +kernel
theorem dL_secret_12 : decode cL_secret 12 = .ok (.astore_n 3, 1) := by decide +kernel
theorem dL_secret_13 : decode cL_secret 13 = .ok (.iconst 1, 1) := by decide +kernel
theorem dL_secret_14 : decode cL_secret 14 = .ok (.ireturn, 1) := by decide +kernel
theorem dL_secret_15 : decode cL_secret 15 = .ok (.iconst 0, 1) := by decide +kernel
theorem dL_secret_16 : decode cL_secret 16 = .ok (.ireturn, 1) := by decide +kernel
set_option maxRecDepth 20000 in
theorem ggL_guess_X8_guess : GoodIn wsL_guess wsX8_guess := goodIn_ca (goodIn_ca (goodIn_r _ [7, 8, 9, 10, 11, 12, 13, 14, 15, 16, 17, 18, 19, 20, 21, 22, 23, 24, 25, 26, 27, 28, 29, 30, 31, 32, 33, 34, 35, 36, 37, 38, 39, 40, 41, 42, 43, 44, 45, 46, 47, 48, 49, 50, 51] (by decide +kernel) (by decide +kernel)) (goodIn_sub (fun _ h => List.mem_cons_of_mem _ (List.mem_append_left _ (List.mem_append_right _ h))) (by decide +kernel))) (goodIn_sub (fun _ h => List.mem_cons_of_mem _ (List.mem_append_right _ h)) (by decide +kernel))
set_option maxRecDepth 20000 in
theorem gL_guess_X8_guess : GoodIn wsL_guess (wsV RL 122 RX8 yX8_guess wsX8_guess) := goodIn_app (goodIn_of _ (by decide +kernel)) ggL_guess_X8_guess
theorem dL_guess_0 : decode cL_guess 0 = .ok (.aload_n 2, 1) := by decide +kernel
theorem dL_guess_1 : decode cL_guess 1 = .ok (.iconst 0, 1) := by decide +kernel
theorem dL_guess_2 : decode cL_guess 2 = .ok (.aload_n 0, 1) := by decide +kernel
theorem dL_guess_3 : decode cL_guess 3 = .ok (.iload_n 1, 1) := by decide +kernel
theorem dL_guess_4 : decode cL_guess 4 = .ok (.invokevirtual 122, 3) := by decide +kernel
theorem dL_guess_7 : decode cL_guess 7 = .ok (.i2l, 1) := by decide +kernel
theorem dL_guess_8 : decode cL_guess 8 = .ok (.lastore, 1) := by decide +kernel
theorem dL_guess_9 : decode cL_guess 9 = .ok (.goto 9, 3) := by decide +kernel
theorem dL_guess_12 : decode cL_guess 12 = .ok (.astore_n 3, 1) := by decide +kernel
theorem dL_guess_13 : decode cL_guess 13 = .ok (.iconst 1, 1) := by decide +kernel
theorem dL_guess_14 : decode cL_guess 14 = .ok (.ireturn, 1) := by decide +kernel
theorem dL_guess_15 : decode cL_guess 15 = .ok (.astore_n 3, 1) := by decide +kernel
theorem dL_guess_16 : decode cL_guess 16 = .ok (.iconst 2, 1) := by decide +kernel
theorem dL_guess_17 : decode cL_guess 17 = .ok (.ireturn, 1) := by decide +kernel
theorem dL_guess_18 : decode cL_guess 18 = .ok (.iconst 0, 1) := by decide +kernel
theorem dL_guess_19 : decode cL_guess 19 = .ok (.ireturn, 1) := by decide +kernel
set_option maxRecDepth 20000 in
theorem ggL_things_X8_things : GoodIn wsL_things wsX8_things := goodIn_ca (goodIn_r _ [6, 7, 8, 9, 10, 11, 12, 13, 14, 15, 16, 17, 5, 18, 19, 20, 21, 22, 23, 24, 25, 26, 27, 28, 29] (by decide +kernel) (by decide +kernel)) (goodIn_sub (fun _ h => List.mem_cons_of_mem _ (List.mem_append_right _ h)) (by decide +kernel))
set_option maxRecDepth 20000 in
theorem gL_things_X8_things : GoodIn wsL_things (wsV RL 125 RX8 yX8_things wsX8_things) := goodIn_app (goodIn_of _ (by decide +kernel)) ggL_things_X8_things
theorem dL_things_0 : decode cL_things 0 = .ok (.aload_n 2, 1) := by decide +kernel
theorem dL_things_1 : decode cL_things 1 = .ok (.iconst 0, 1) := by decide +kernel
theorem dL_things_2 : decode cL_things 2 = .ok (.aload_n 0, 1) := by decide +kernel
theorem dL_things_3 : decode cL_things 3 = .ok (.iload_n 1, 1) := by decide +kernel
theorem dL_things_4 : decode cL_things 4 = .ok (.invokevirtual 125, 3) := by decide +kernel
theorem dL_things_7 : decode cL_things 7 = .ok (.i2l, 1) := by decide +kernel
theorem dL_things_8 : decode cL_things 8 = .ok (.lastore, 1) := by decide +kernel
theorem dL_things_9 : decode cL_things 9 = .ok (.goto 6, 3) := by decide +kernel
theorem dL_things_12 : decode cL_things 12 = .ok (.astore_n 3, 1) := by decide +kernel
theorem dL_things_13 : decode cL_things 13 = .ok (.iconst 1, 1) := by decide +kernel
theorem dL_things_14 : decode cL_things 14 = .ok (.ireturn, 1) := by decide +kernel
theorem dL_things_15 : decode cL_things 15 = .ok (.iconst 0, 1) := by decide +kernel
theorem dL_things_16 : decode cL_things 16 = .ok (.ireturn, 1) := by decide +kernel
set_option maxRecDepth 20000 in
theorem ggL_ahead_X8_ahead : GoodIn wsL_ahead wsX8_ahead := goodIn_ca (goodIn_ca (goodIn_r _ [7, 8, 9, 10, 11, 12, 13, 14, 15, 16, 17, 18, 19, 20, 21, 22, 23, 24, 6, 25, 26, 27, 28, 29, 30, 31, 32, 33, 34, 35, 36, 37, 38, 39, 40, 41, 42, 43, 44, 45, 46, 47, 48, 49, 50, 51, 52] (by decide +kernel) (by decide +kernel)) (goodIn_sub (fun _ h => List.mem_cons_of_mem _ (List.mem_append_left _ (List.mem_append_right _ h))) (by decide +kernel))) (goodIn_sub (fun _ h => List.mem_cons_of_mem _ (List.mem_append_right _ h)) (by decide +kernel))
set_option maxRecDepth 20000 in
theorem gL_ahead_X8_ahead : GoodIn wsL_ahead (wsV RL 128 RX8 yX8_ahead wsX8_ahead) := goodIn_app (goodIn_of _ (by decide +kernel)) ggL_ahead_X8_ahead
theorem dL_ahead_0 : decode cL_ahead 0 = .ok (.aload_n 3, 1) := by decide +kernel
theorem dL_ahead_1 : decode cL_ahead 1 = .ok (.iconst 0, 1) := by decide +kernel
theorem dL_ahead_2 : decode cL_ahead 2 = .ok (.aload_n 0, 1) := by decide +kernel
theorem dL_ahead_3 : decode cL_ahead 3 = .ok (.iload_n 1, 1) := by decide +kernel
theorem dL_ahead_4 : decode cL_ahead 4 = .ok (.iload_n 2, 1) := by decide +kernel
theorem dL_ahead_5 : decode cL_ahead 5 = .ok (.invokevirtual 128, 3) := by decide +kernel
theorem dL_ahead_8 : decode cL_ahead 8 = .ok (.i2l, 1) := by decide +kernel
theorem dL_ahead_9 : decode cL_ahead 9 = .ok (.lastore, 1) := by decide +kernel
theorem dL_ahead_10 : decode cL_ahead 10 = .ok (.goto 11, 3) := by decide +kernel
theorem dL_ahead_13 : decode cL_ahead 13 = .ok (.astore 4, 2) := by decide +kernel
theorem dL_ahead_15 : decode cL_ahead 15 = .ok (.iconst 1, 1) := by decide +kernel
theorem dL_ahead_16 : decode cL_ahead 16 = .ok (.ireturn, 1) := by decide +kernel
theorem dL_ahead_17 : decode cL_ahead 17 = .ok (.astore 4, 2) := by decide +kernel
theorem dL_ahead_19 : decode cL_ahead 19 = .ok (.iconst 2, 1) := by decide +kernel
theorem dL_ahead_20 : decode cL_ahead 20 = .ok (.ireturn, 1) := by decide +kernel
theorem dL_ahead_21 : decode cL_ahead 21 = .ok (.iconst 0, 1) := by decide +kernel
theorem dL_ahead_22 : decode cL_ahead 22 = .ok (.ireturn, 1) := by decide +kernel
set_option maxRecDepth 20000 in
theorem ggL_pair_X8_pair : GoodIn wsL_pair wsX8_pair := goodIn_ca (goodIn_r _ [6, 7, 8, 9, 10, 11, 12, 13, 14, 15, 16, 17, 5, 18, 19, 20, 21, 22, 23, 24, 25, 26, 27, 28, 29, 30, 31, 32, 33, 34, 35, 36, 37, 38, 39, 40, 41, 42, 43, 44, 45, 46, 47, 48, 49, 50, 51, 52, 53] (by decide +kernel) (by decide +kernel)) (goodIn_sub (fun _ h => List.mem_cons_of_mem _ (List.mem_append_right _ h)) (by decide +kernel))
set_option maxRecDepth 20000 in
theorem gL_pair_X8_pair : GoodIn wsL_pair (wsV RL 131 RX8 yX8_pair wsX8_pair) := goodIn_app (goodIn_of _ (by decide +kernel)) ggL_pair_X8_pair
theorem dL_pair_0 : decode cL_pair 0 = .ok (.aload_n 1, 1) := by decide +kernel
theorem dL_pair_1 : decode cL_pair 1 = .ok (.iconst 0, 1) := by decide +kernel
theorem dL_pair_2 : decode cL_pair 2 = .ok (.aload_n 0, 1) := by decide +kernel
theorem dL_pair_3 : decode cL_pair 3 = .ok (.invokevirtual 131, 3) := by decide +kernel
theorem dL_pair_6 : decode cL_pair 6 = .ok (.i2l, 1) := by decide +kernel
theorem dL_pair_7 : decode cL_pair 7 = .ok (.lastore, 1) := by decide +kernel
theorem dL_pair_8 : decode cL_pair 8 = .ok (.goto 6, 3) := by decide +kernel
theorem dL_pair_11 : decode cL_pair 11 = .ok (.astore_n 2, 1) := by decide +kernel
theorem dL_pair_12 : decode cL_pair 12 = .ok (.iconst 1, 1) := by decide +kernel
theorem dL_pair_13 : decode cL_pair 13 = .ok (.ireturn, 1) := by decide +kernel
theorem dL_pair_14 : decode cL_pair 14 = .ok (.iconst 0, 1) := by decide +kernel
theorem dL_pair_15 : decode cL_pair 15 = .ok (.ireturn, 1) := by decide +kernel
set_option maxRecDepth 20000 in
theorem ggL_aliveShare_X8_aliveShare : GoodIn wsL_aliveShare wsX8_aliveShare := goodIn_ca (goodIn_r _ [6, 7, 8, 9, 10, 11, 12, 13, 14, 15, 16, 17, 18, 19, 20, 21, 22, 23, 24, 25, 26, 27, 5, 28, 29, 30, 31, 32, 33, 34, 35, 36, 37, 38, 39, 40, 41, 42, 43, 44, 45, 46, 47, 48, 49, 50, 51, 52, 53, 54, 55] (by decide +kernel) (by decide +kernel)) (goodIn_sub (fun _ h => List.mem_cons_of_mem _ (List.mem_append_right _ h)) (by decide +kernel))
set_option maxRecDepth 20000 in
theorem gL_aliveShare_X8_aliveShare : GoodIn wsL_aliveShare (wsV RL 134 RX8 yX8_aliveShare wsX8_aliveShare) := goodIn_app (goodIn_of _ (by decide +kernel)) ggL_aliveShare_X8_aliveShare
theorem dL_aliveShare_0 : decode cL_aliveShare 0 = .ok (.aload_n 1, 1) := by decide +kernel
theorem dL_aliveShare_1 : decode cL_aliveShare 1 = .ok (.iconst 0, 1) := by decide +kernel
theorem dL_aliveShare_2 : decode cL_aliveShare 2 = .ok (.aload_n 0, 1) := by decide +kernel
theorem dL_aliveShare_3 : decode cL_aliveShare 3 = .ok (.invokevirtual 134, 3) := by decide +kernel
theorem dL_aliveShare_6 : decode cL_aliveShare 6 = .ok (.f2d, 1) := by decide +kernel
theorem dL_aliveShare_7 : decode cL_aliveShare 7 = .ok (.dastore, 1) := by decide +kernel
theorem dL_aliveShare_8 : decode cL_aliveShare 8 = .ok (.goto 6, 3) := by decide +kernel
theorem dL_aliveShare_11 : decode cL_aliveShare 11 = .ok (.astore_n 2, 1) := by decide +kernel
theorem dL_aliveShare_12 : decode cL_aliveShare 12 = .ok (.iconst 1, 1) := by decide +kernel
theorem dL_aliveShare_13 : decode cL_aliveShare 13 = .ok (.ireturn, 1) := by decide +kernel
theorem dL_aliveShare_14 : decode cL_aliveShare 14 = .ok (.iconst 0, 1) := by decide +kernel
theorem dL_aliveShare_15 : decode cL_aliveShare 15 = .ok (.ireturn, 1) := by decide +kernel
set_option maxRecDepth 20000 in
theorem ggL_meanLesson_X8_meanLesson : GoodIn wsL_meanLesson wsX8_meanLesson := goodIn_ca (goodIn_r _ [6, 7, 8, 9, 10, 11, 12, 13, 14, 15, 16, 17, 18, 19, 20, 21, 22, 23, 24, 25, 26, 27, 28, 29, 30, 31, 32, 33, 34, 35, 36, 37, 5, 38, 39, 40, 41, 42, 43, 44, 45, 46, 47, 48, 49, 50] (by decide +kernel) (by decide +kernel)) (goodIn_sub (fun _ h => List.mem_cons_of_mem _ (List.mem_append_right _ h)) (by decide +kernel))
set_option maxRecDepth 20000 in
theorem gL_meanLesson_X8_meanLesson : GoodIn wsL_meanLesson (wsV RL 138 RX8 yX8_meanLesson wsX8_meanLesson) := goodIn_app (goodIn_of _ (by decide +kernel)) ggL_meanLesson_X8_meanLesson
theorem dL_meanLesson_0 : decode cL_meanLesson 0 = .ok (.aload_n 1, 1) := by decide +kernel
theorem dL_meanLesson_1 : decode cL_meanLesson 1 = .ok (.iconst 0, 1) := by decide +kernel
theorem dL_meanLesson_2 : decode cL_meanLesson 2 = .ok (.aload_n 0, 1) := by decide +kernel
theorem dL_meanLesson_3 : decode cL_meanLesson 3 = .ok (.invokevirtual 138, 3) := by decide +kernel
theorem dL_meanLesson_6 : decode cL_meanLesson 6 = .ok (.dastore, 1) := by decide +kernel
theorem dL_meanLesson_7 : decode cL_meanLesson 7 = .ok (.goto 6, 3) := by decide +kernel
theorem dL_meanLesson_10 : decode cL_meanLesson 10 = .ok (.astore_n 2, 1) := by decide +kernel
theorem dL_meanLesson_11 : decode cL_meanLesson 11 = .ok (.iconst 1, 1) := by decide +kernel
theorem dL_meanLesson_12 : decode cL_meanLesson 12 = .ok (.ireturn, 1) := by decide +kernel
theorem dL_meanLesson_13 : decode cL_meanLesson 13 = .ok (.iconst 0, 1) := by decide +kernel
theorem dL_meanLesson_14 : decode cL_meanLesson 14 = .ok (.ireturn, 1) := by decide +kernel
