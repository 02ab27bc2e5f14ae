theorem mw_534 : (Cond.code qy_H_next qc_H_next 3 (some .int) : Cond) ∈ gG := q_tables_1_3 (List.mem_of_getElem? (i := 172) rfl) rfl
theorem mw_535 : (Cond.methodLink qR_H 161 qy_O_tokensBehind : Cond) ∈ gG := q_tables_1_3 (List.mem_of_getElem? (i := 173) (by decide +kernel)) (by decide +kernel)
theorem mw_536 : (Cond.instanceMethod qy_O_tokensBehind : Cond) ∈ gG := q_tables_1_3 (List.mem_of_getElem? (i := 174) (by decide +kernel)) (by decide +kernel)
theorem mw_537 : (Cond.selects qR_O qy_O_tokensBehind qy_O_tokensBehind : Cond) ∈ gG := q_tables_1_3 (List.mem_of_getElem? (i := 175) (by decide +kernel)) (by decide +kernel)
theorem mw_538 : (Cond.code qy_O_tokensBehind qc_O_tokensBehind 3 (some .int) : Cond) ∈ gG := q_tables_1_3 (List.mem_of_getElem? (i := 176) rfl) rfl
theorem mw_539 : (Cond.methodLink qR_O 27 qy_O_lookFrom : Cond) ∈ gG := q_tables_1_3 (List.mem_of_getElem? (i := 177) (by decide +kernel)) (by decide +kernel)
theorem mw_540 : (Cond.instanceMethod qy_O_lookFrom : Cond) ∈ gG := q_tables_1_3 (List.mem_of_getElem? (i := 179) (by decide +kernel)) (by decide +kernel)
theorem mw_541 : (Cond.code qy_O_lookFrom qc_O_lookFrom 4 (none) : Cond) ∈ gG := q_tables_1_3 (List.mem_of_getElem? (i := 180) rfl) rfl
theorem mw_542 : (Cond.methodLink qR_O 35 qy_O_write : Cond) ∈ gG := q_tables_1_3 (List.mem_of_getElem? (i := 181) (by decide +kernel)) (by decide +kernel)
theorem mw_543 : (Cond.instanceMethod qy_O_write : Cond) ∈ gG := q_tables_1_3 (List.mem_of_getElem? (i := 183) (by decide +kernel)) (by decide +kernel)
theorem mw_544 : (Cond.code qy_O_write qc_O_write 5 (none) : Cond) ∈ gG := q_tables_1_3 (List.mem_of_getElem? (i := 184) rfl) rfl
theorem mw_545 : (Cond.methodLink qR_O 74 qy_O_cell : Cond) ∈ gG := q_tables_1_3 (List.mem_of_getElem? (i := 185) (by decide +kernel)) (by decide +kernel)
theorem mw_546 : (Cond.static qy_O_cell : Cond) ∈ gG := q_tables_1_3 (List.mem_of_getElem? (i := 186) (by decide +kernel)) (by decide +kernel)
theorem mw_547 : (Cond.code qy_O_cell qc_O_cell 3 (some .int) : Cond) ∈ gG := q_tables_1_3 (List.mem_of_getElem? (i := 187) rfl) rfl
theorem mw_548 : (Cond.methodLink qR_O 39 qy_G_size : Cond) ∈ gG := q_tables_1_3 (List.mem_of_getElem? (i := 188) (by decide +kernel)) (by decide +kernel)
theorem mw_549 : (Cond.methodLink qR_O 45 qy_G_isUsable : Cond) ∈ gG := q_tables_1_3 (List.mem_of_getElem? (i := 189) (by decide +kernel)) (by decide +kernel)
theorem mw_550 : (Cond.methodLink qR_O 49 qy_G_head : Cond) ∈ gG := q_tables_1_3 (List.mem_of_getElem? (i := 190) (by decide +kernel)) (by decide +kernel)
theorem mw_551 : (Cond.methodLink qR_O 53 qy_O_nextsBehindFirst : Cond) ∈ gG := q_tables_1_3 (List.mem_of_getElem? (i := 191) (by decide +kernel)) (by decide +kernel)
theorem mw_552 : (Cond.instanceMethod qy_O_nextsBehindFirst : Cond) ∈ gG := q_tables_1_3 (List.mem_of_getElem? (i := 193) (by decide +kernel)) (by decide +kernel)
theorem mw_553 : (Cond.code qy_O_nextsBehindFirst qc_O_nextsBehindFirst 5 (some .int) : Cond) ∈ gG := q_tables_1_3 (List.mem_of_getElem? (i := 194) rfl) rfl
theorem mw_554 : (Cond.methodLink qR_O 62 qy_G_item : Cond) ∈ gG := q_tables_1_3 (List.mem_of_getElem? (i := 195) (by decide +kernel)) (by decide +kernel)
theorem mw_555 : (Cond.methodLink qR_O 65 qy_C_trees : Cond) ∈ gG := q_tables_1_3 (List.mem_of_getElem? (i := 196) (by decide +kernel)) (by decide +kernel)
theorem mw_556 : (Cond.methodLink qR_O 31 qy_O_itemNexts : Cond) ∈ gG := q_tables_1_3 (List.mem_of_getElem? (i := 197) (by decide +kernel)) (by decide +kernel)
theorem mw_557 : (Cond.instanceMethod qy_O_itemNexts : Cond) ∈ gG := q_tables_1_3 (List.mem_of_getElem? (i := 199) (by decide +kernel)) (by decide +kernel)
theorem mw_558 : (Cond.code qy_O_itemNexts qc_O_itemNexts 4 (some .int) : Cond) ∈ gG := q_tables_1_3 (List.mem_of_getElem? (i := 200) rfl) rfl
theorem mw_559 : (Cond.methodLink qR_O 71 qy_O_nextsBehindSecond : Cond) ∈ gG := q_tables_1_3 (List.mem_of_getElem? (i := 201) (by decide +kernel)) (by decide +kernel)
theorem mw_560 : (Cond.instanceMethod qy_O_nextsBehindSecond : Cond) ∈ gG := q_tables_1_3 (List.mem_of_getElem? (i := 203) (by decide +kernel)) (by decide +kernel)
theorem mw_561 : (Cond.code qy_O_nextsBehindSecond qc_O_nextsBehindSecond 5 (some .int) : Cond) ∈ gG := q_tables_1_3 (List.mem_of_getElem? (i := 204) rfl) rfl
theorem mw_562 : (Cond.methodLink qR_O 56 qy_O_addTo : Cond) ∈ gG := q_tables_1_3 (List.mem_of_getElem? (i := 205) (by decide +kernel)) (by decide +kernel)
theorem mw_563 : (Cond.instanceMethod qy_O_addTo : Cond) ∈ gG := q_tables_1_3 (List.mem_of_getElem? (i := 207) (by decide +kernel)) (by decide +kernel)
theorem mw_564 : (Cond.code qy_O_addTo qc_O_addTo 4 (none) : Cond) ∈ gG := q_tables_1_3 (List.mem_of_getElem? (i := 208) rfl) rfl
theorem mw_565 : (Cond.methodLink qR_O 59 qy_O_addFirstItems : Cond) ∈ gG := q_tables_1_3 (List.mem_of_getElem? (i := 209) (by decide +kernel)) (by decide +kernel)
theorem mw_566 : (Cond.instanceMethod qy_O_addFirstItems : Cond) ∈ gG := q_tables_1_3 (List.mem_of_getElem? (i := 211) (by decide +kernel)) (by decide +kernel)
theorem mw_567 : (Cond.code qy_O_addFirstItems qc_O_addFirstItems 5 (some .boolean) : Cond) ∈ gG := q_tables_1_3 (List.mem_of_getElem? (i := 212) rfl) rfl
theorem mw_568 : (Cond.classLink qR_L 50 qR_M : Cond) ∈ gG := q_tables_1_3 (List.mem_of_getElem? (i := 213) (by decide +kernel)) (by decide +kernel)
theorem mw_569 : (Cond.instantiable qR_M 23 : Cond) ∈ gG := q_tables_1_3 (List.mem_of_getElem? (i := 214) (by decide +kernel)) (by decide +kernel)
theorem mw_570 : (Cond.methodLink qR_L 52 qy_M_init : Cond) ∈ gG := q_tables_1_3 (List.mem_of_getElem? (i := 215) (by decide +kernel)) (by decide +kernel)
theorem mw_571 : (Cond.instanceMethod qy_M_init : Cond) ∈ gG := q_tables_1_3 (List.mem_of_getElem? (i := 216) (by decide +kernel)) (by decide +kernel)
theorem mw_572 : (Cond.code qy_M_init qc_M_init 1 (none) : Cond) ∈ gG := q_tables_1_3 (List.mem_of_getElem? (i := 217) rfl) rfl
theorem mw_573 : (Cond.methodLink qR_M 1 ⟨"java/lang/Object", "<init>", "()V"⟩ : Cond) ∈ gG := q_tables_1_3 (List.mem_of_getElem? (i := 218) (by decide +kernel)) (by decide +kernel)
theorem mw_574 : (Cond.fieldLink qR_M 47 qR_M "thrown" "I" : Cond) ∈ gG := q_tables_1_3 (List.mem_of_getElem? (i := 219) (by decide +kernel)) (by decide +kernel)
theorem mw_575 : (Cond.fieldLink qR_M 51 qR_M "productions" "I" : Cond) ∈ gG := q_tables_1_3 (List.mem_of_getElem? (i := 220) (by decide +kernel)) (by decide +kernel)
theorem mw_576 : (Cond.fieldLink qR_M 7 qR_M "head" "[I" : Cond) ∈ gG := q_tables_1_3 (List.mem_of_getElem? (i := 221) (by decide +kernel)) (by decide +kernel)
theorem mw_577 : (Cond.fieldLink qR_M 13 qR_M "items" "[I" : Cond) ∈ gG := q_tables_1_3 (List.mem_of_getElem? (i := 222) (by decide +kernel)) (by decide +kernel)
theorem mw_578 : (Cond.fieldLink qR_M 16 qR_M "costs" "[I" : Cond) ∈ gG := q_tables_1_3 (List.mem_of_getElem? (i := 223) (by decide +kernel)) (by decide +kernel)
theorem mw_579 : (Cond.fieldLink qR_M 54 qR_M "tokens" "I" : Cond) ∈ gG := q_tables_1_3 (List.mem_of_getElem? (i := 224) (by decide +kernel)) (by decide +kernel)
theorem mw_580 : (Cond.fieldLink qR_M 19 qR_M "token" "[I" : Cond) ∈ gG := q_tables_1_3 (List.mem_of_getElem? (i := 225) (by decide +kernel)) (by decide +kernel)
theorem mw_581 : (Cond.fieldLink qR_M 60 qR_M "known" "Z" : Cond) ∈ gG := q_tables_1_3 (List.mem_of_getElem? (i := 226) (by decide +kernel)) (by decide +kernel)
theorem mw_582 : (Cond.fieldLink qR_M 22 qR_M "counts" "[I" : Cond) ∈ gG := q_tables_1_3 (List.mem_of_getElem? (i := 227) (by decide +kernel)) (by decide +kernel)
theorem mw_583 : (Cond.fieldLink qR_M 25 qR_M "least" "[I" : Cond) ∈ gG := q_tables_1_3 (List.mem_of_getElem? (i := 228) (by decide +kernel)) (by decide +kernel)
theorem mw_584 : (Cond.fieldLink qR_M 28 qR_M "steps" "[Z" : Cond) ∈ gG := q_tables_1_3 (List.mem_of_getElem? (i := 229) (by decide +kernel)) (by decide +kernel)
theorem mw_585 : (Cond.fieldLink qR_M 57 qR_M "nodes" "I" : Cond) ∈ gG := q_tables_1_3 (List.mem_of_getElem? (i := 230) (by decide +kernel)) (by decide +kernel)
theorem mw_586 : (Cond.fieldLink qR_M 32 qR_M "nodeOf" "[I" : Cond) ∈ gG := q_tables_1_3 (List.mem_of_getElem? (i := 231) (by decide +kernel)) (by decide +kernel)
theorem mw_587 : (Cond.fieldLink qR_M 147 qR_M "newNodes" "I" : Cond) ∈ gG := q_tables_1_3 (List.mem_of_getElem? (i := 232) (by decide +kernel)) (by decide +kernel)
theorem mw_588 : (Cond.fieldLink qR_M 35 qR_M "newNode" "[I" : Cond) ∈ gG := q_tables_1_3 (List.mem_of_getElem? (i := 233) (by decide +kernel)) (by decide +kernel)
theorem mw_589 : (Cond.fieldLink qR_M 140 qR_M "open" "I" : Cond) ∈ gG := q_tables_1_3 (List.mem_of_getElem? (i := 234) (by decide +kernel)) (by decide +kernel)
theorem mw_590 : (Cond.fieldLink qR_M 38 qR_M "todo" "[I" : Cond) ∈ gG := q_tables_1_3 (List.mem_of_getElem? (i := 235) (by decide +kernel)) (by decide +kernel)
theorem mw_591 : (Cond.fieldLink qR_M 105 qR_M "first" "I" : Cond) ∈ gG := q_tables_1_3 (List.mem_of_getElem? (i := 236) (by decide +kernel)) (by decide +kernel)
theorem mw_592 : (Cond.fieldLink qR_M 108 qR_M "second" "I" : Cond) ∈ gG := q_tables_1_3 (List.mem_of_getElem? (i := 237) (by decide +kernel)) (by decide +kernel)
theorem mw_593 : (Cond.fieldLink qR_M 41 qR_M "wanted" "[Z" : Cond) ∈ gG := q_tables_1_3 (List.mem_of_getElem? (i := 238) (by decide +kernel)) (by decide +kernel)
theorem mw_594 : (Cond.fieldLink qR_M 44 qR_M "useful" "[Z" : Cond) ∈ gG := q_tables_1_3 (List.mem_of_getElem? (i := 239) (by decide +kernel)) (by decide +kernel)
theorem mw_595 : (Cond.fieldLink qR_M 160 qR_M "next" "I" : Cond) ∈ gG := q_tables_1_4 (List.mem_of_getElem? (i := 0) (by decide +kernel)) (by decide +kernel)
theorem mw_596 : (Cond.fieldLink qR_M 163 qR_M "news" "Z" : Cond) ∈ gG := q_tables_1_4 (List.mem_of_getElem? (i := 1) (by decide +kernel)) (by decide +kernel)
theorem mw_597 : (Cond.lays qR_M qR_M "thrown" "I" : Cond) ∈ gG := q_tables_1_4 (List.mem_of_getElem? (i := 2) (by decide +kernel)) (by decide +kernel)
theorem mw_598 : (Cond.lays qR_M qR_M "productions" "I" : Cond) ∈ gG := q_tables_1_4 (List.mem_of_getElem? (i := 4) (by decide +kernel)) (by decide +kernel)
theorem mw_599 : (Cond.laysFinal qR_M qR_M "head" "[I" : Cond) ∈ gG := q_tables_1_4 (List.mem_of_getElem? (i := 6) (by decide +kernel)) (by decide +kernel)
theorem mw_600 : (Cond.laysFinal qR_M qR_M "items" "[I" : Cond) ∈ gG := q_tables_1_4 (List.mem_of_getElem? (i := 8) (by decide +kernel)) (by decide +kernel)
theorem mw_601 : (Cond.laysFinal qR_M qR_M "costs" "[I" : Cond) ∈ gG := q_tables_1_4 (List.mem_of_getElem? (i := 10) (by decide +kernel)) (by decide +kernel)
theorem mw_602 : (Cond.lays qR_M qR_M "tokens" "I" : Cond) ∈ gG := q_tables_1_4 (List.mem_of_getElem? (i := 12) (by decide +kernel)) (by decide +kernel)
theorem mw_603 : (Cond.laysFinal qR_M qR_M "token" "[I" : Cond) ∈ gG := q_tables_1_4 (List.mem_of_getElem? (i := 14) (by decide +kernel)) (by decide +kernel)
theorem mw_604 : (Cond.lays qR_M qR_M "known" "Z" : Cond) ∈ gG := q_tables_1_4 (List.mem_of_getElem? (i := 16) (by decide +kernel)) (by decide +kernel)
theorem mw_605 : (Cond.laysFinal qR_M qR_M "counts" "[I" : Cond) ∈ gG := q_tables_1_4 (List.mem_of_getElem? (i := 18) (by decide +kernel)) (by decide +kernel)
theorem mw_606 : (Cond.laysFinal qR_M qR_M "least" "[I" : Cond) ∈ gG := q_tables_1_4 (List.mem_of_getElem? (i := 20) (by decide +kernel)) (by decide +kernel)
theorem mw_607 : (Cond.laysFinal qR_M qR_M "steps" "[Z" : Cond) ∈ gG := q_tables_1_4 (List.mem_of_getElem? (i := 22) (by decide +kernel)) (by decide +kernel)
theorem mw_608 : (Cond.lays qR_M qR_M "nodes" "I" : Cond) ∈ gG := q_tables_1_4 (List.mem_of_getElem? (i := 24) (by decide +kernel)) (by decide +kernel)
theorem mw_609 : (Cond.laysFinal qR_M qR_M "nodeOf" "[I" : Cond) ∈ gG := q_tables_1_4 (List.mem_of_getElem? (i := 26) (by decide +kernel)) (by decide +kernel)
theorem mw_610 : (Cond.lays qR_M qR_M "newNodes" "I" : Cond) ∈ gG := q_tables_1_4 (List.mem_of_getElem? (i := 28) (by decide +kernel)) (by decide +kernel)
theorem mw_611 : (Cond.laysFinal qR_M qR_M "newNode" "[I" : Cond) ∈ gG := q_tables_1_4 (List.mem_of_getElem? (i := 30) (by decide +kernel)) (by decide +kernel)
theorem mw_612 : (Cond.lays qR_M qR_M "open" "I" : Cond) ∈ gG := q_tables_1_4 (List.mem_of_getElem? (i := 32) (by decide +kernel)) (by decide +kernel)
theorem mw_613 : (Cond.laysFinal qR_M qR_M "todo" "[I" : Cond) ∈ gG := q_tables_1_4 (List.mem_of_getElem? (i := 34) (by decide +kernel)) (by decide +kernel)
theorem mw_614 : (Cond.lays qR_M qR_M "first" "I" : Cond) ∈ gG := q_tables_1_4 (List.mem_of_getElem? (i := 36) (by decide +kernel)) (by decide +kernel)
theorem mw_615 : (Cond.lays qR_M qR_M "second" "I" : Cond) ∈ gG := q_tables_1_4 (List.mem_of_getElem? (i := 38) (by decide +kernel)) (by decide +kernel)
theorem mw_616 : (Cond.laysFinal qR_M qR_M "wanted" "[Z" : Cond) ∈ gG := q_tables_1_4 (List.mem_of_getElem? (i := 40) (by decide +kernel)) (by decide +kernel)
theorem mw_617 : (Cond.laysFinal qR_M qR_M "useful" "[Z" : Cond) ∈ gG := q_tables_1_4 (List.mem_of_getElem? (i := 42) (by decide +kernel)) (by decide +kernel)
theorem mw_618 : (Cond.lays qR_M qR_M "next" "I" : Cond) ∈ gG := q_tables_1_4 (List.mem_of_getElem? (i := 44) (by decide +kernel)) (by decide +kernel)
theorem mw_619 : (Cond.lays qR_M qR_M "news" "Z" : Cond) ∈ gG := q_tables_1_4 (List.mem_of_getElem? (i := 46) (by decide +kernel)) (by decide +kernel)
theorem mw_620 : (Cond.arrayClass Jvm.ClassFile.FieldType.boolean : Cond) ∈ gG := q_tables_1_4 (List.mem_of_getElem? (i := 49) (by decide +kernel)) (by decide +kernel)
theorem mw_621 : (Cond.methodLink qR_L 63 qy_M_thrown : Cond) ∈ gG := q_tables_1_4 (List.mem_of_getElem? (i := 50) (by decide +kernel)) (by decide +kernel)
theorem mw_622 : (Cond.instanceMethod qy_M_thrown : Cond) ∈ gG := q_tables_1_4 (List.mem_of_getElem? (i := 51) (by decide +kernel)) (by decide +kernel)
theorem mw_623 : (Cond.selects qR_M qy_M_thrown qy_M_thrown : Cond) ∈ gG := q_tables_1_4 (List.mem_of_getElem? (i := 52) (by decide +kernel)) (by decide +kernel)
theorem mw_624 : (Cond.code qy_M_thrown qc_M_thrown 1 (some .int) : Cond) ∈ gG := q_tables_1_4 (List.mem_of_getElem? (i := 53) rfl) rfl
theorem mw_625 : (Cond.methodLink qR_L 56 qy_M_clear : Cond) ∈ gG := q_tables_1_4 (List.mem_of_getElem? (i := 54) (by decide +kernel)) (by decide +kernel)
theorem mw_626 : (Cond.instanceMethod qy_M_clear : Cond) ∈ gG := q_tables_1_4 (List.mem_of_getElem? (i := 55) (by decide +kernel)) (by decide +kernel)
theorem mw_627 : (Cond.selects qR_M qy_M_clear qy_M_clear : Cond) ∈ gG := q_tables_1_4 (List.mem_of_getElem? (i := 56) (by decide +kernel)) (by decide +kernel)
theorem mw_628 : (Cond.code qy_M_clear qc_M_clear 1 (none) : Cond) ∈ gG := q_tables_1_4 (List.mem_of_getElem? (i := 57) rfl) rfl
theorem mw_629 : (Cond.methodLink qR_L 62 qy_M_production : Cond) ∈ gG := q_tables_1_4 (List.mem_of_getElem? (i := 58) (by decide +kernel)) (by decide +kernel)
theorem mw_630 : (Cond.instanceMethod qy_M_production : Cond) ∈ gG := q_tables_1_4 (List.mem_of_getElem? (i := 59) (by decide +kernel)) (by decide +kernel)
theorem mw_631 : (Cond.selects qR_M qy_M_production qy_M_production : Cond) ∈ gG := q_tables_1_4 (List.mem_of_getElem? (i := 60) (by decide +kernel)) (by decide +kernel)
theorem mw_632 : (Cond.code qy_M_production qc_M_production 8 (some .int) : Cond) ∈ gG := q_tables_1_4 (List.mem_of_getElem? (i := 61) rfl) rfl
theorem mw_633 : (Cond.methodLink qR_M 64 qy_M_in : Cond) ∈ gG := q_tables_1_4 (List.mem_of_getElem? (i := 62) (by decide +kernel)) (by decide +kernel)
theorem mw_634 : (Cond.static qy_M_in : Cond) ∈ gG := q_tables_1_4 (List.mem_of_getElem? (i := 63) (by decide +kernel)) (by decide +kernel)
theorem mw_635 : (Cond.code qy_M_in qc_M_in 3 (some .boolean) : Cond) ∈ gG := q_tables_1_4 (List.mem_of_getElem? (i := 64) rfl) rfl
theorem mw_636 : (Cond.methodLink qR_M 68 qy_M_isItem : Cond) ∈ gG := q_tables_1_4 (List.mem_of_getElem? (i := 65) (by decide +kernel)) (by decide +kernel)
theorem mw_637 : (Cond.static qy_M_isItem : Cond) ∈ gG := q_tables_1_4 (List.mem_of_getElem? (i := 66) (by decide +kernel)) (by decide +kernel)
theorem mw_638 : (Cond.code qy_M_isItem qc_M_isItem 1 (some .boolean) : Cond) ∈ gG := q_tables_1_4 (List.mem_of_getElem? (i := 67) rfl) rfl
theorem mw_639 : (Cond.methodLink qR_M 72 qy_M_leads : Cond) ∈ gG := q_tables_1_4 (List.mem_of_getElem? (i := 68) (by decide +kernel)) (by decide +kernel)
theorem mw_640 : (Cond.instanceMethod qy_M_leads : Cond) ∈ gG := q_tables_1_4 (List.mem_of_getElem? (i := 70) (by decide +kernel)) (by decide +kernel)
theorem mw_641 : (Cond.code qy_M_leads qc_M_leads 7 (some .boolean) : Cond) ∈ gG := q_tables_1_4 (List.mem_of_getElem? (i := 71) rfl) rfl
theorem mw_642 : (Cond.methodLink qR_M 76 qy_M_refuse : Cond) ∈ gG := q_tables_1_4 (List.mem_of_getElem? (i := 72) (by decide +kernel)) (by decide +kernel)
theorem mw_643 : (Cond.instanceMethod qy_M_refuse : Cond) ∈ gG := q_tables_1_4 (List.mem_of_getElem? (i := 74) (by decide +kernel)) (by decide +kernel)
theorem mw_644 : (Cond.code qy_M_refuse qc_M_refuse 4 (some .boolean) : Cond) ∈ gG := q_tables_1_4 (List.mem_of_getElem? (i := 75) rfl) rfl
theorem mw_645 : (Cond.methodLink qR_L 70 qy_M_put : Cond) ∈ gG := q_tables_1_4 (List.mem_of_getElem? (i := 76) (by decide +kernel)) (by decide +kernel)
theorem mw_646 : (Cond.instanceMethod qy_M_put : Cond) ∈ gG := q_tables_1_4 (List.mem_of_getElem? (i := 77) (by decide +kernel)) (by decide +kernel)
theorem mw_647 : (Cond.selects qR_M qy_M_put qy_M_put : Cond) ∈ gG := q_tables_1_4 (List.mem_of_getElem? (i := 78) (by decide +kernel)) (by decide +kernel)
theorem mw_648 : (Cond.code qy_M_put qc_M_put 3 (some .int) : Cond) ∈ gG := q_tables_1_4 (List.mem_of_getElem? (i := 79) rfl) rfl
theorem mw_649 : (Cond.methodLink qR_L 74 qy_M_cut : Cond) ∈ gG := q_tables_1_4 (List.mem_of_getElem? (i := 80) (by decide +kernel)) (by decide +kernel)
theorem mw_650 : (Cond.instanceMethod qy_M_cut : Cond) ∈ gG := q_tables_1_4 (List.mem_of_getElem? (i := 81) (by decide +kernel)) (by decide +kernel)
theorem mw_651 : (Cond.selects qR_M qy_M_cut qy_M_cut : Cond) ∈ gG := q_tables_1_4 (List.mem_of_getElem? (i := 82) (by decide +kernel)) (by decide +kernel)
theorem mw_652 : (Cond.code qy_M_cut qc_M_cut 2 (none) : Cond) ∈ gG := q_tables_1_4 (List.mem_of_getElem? (i := 83) rfl) rfl
theorem mw_653 : (Cond.methodLink qR_L 78 qy_M_count : Cond) ∈ gG := q_tables_1_4 (List.mem_of_getElem? (i := 84) (by decide +kernel)) (by decide +kernel)
theorem mw_654 : (Cond.instanceMethod qy_M_count : Cond) ∈ gG := q_tables_1_4 (List.mem_of_getElem? (i := 85) (by decide +kernel)) (by decide +kernel)
theorem mw_655 : (Cond.selects qR_M qy_M_count qy_M_count : Cond) ∈ gG := q_tables_1_4 (List.mem_of_getElem? (i := 86) (by decide +kernel)) (by decide +kernel)
theorem mw_656 : (Cond.code qy_M_count qc_M_count 4 (some .int) : Cond) ∈ gG := q_tables_1_4 (List.mem_of_getElem? (i := 87) rfl) rfl
theorem mw_657 : (Cond.methodLink qR_M 134 qy_M_isPart : Cond) ∈ gG := q_tables_1_4 (List.mem_of_getElem? (i := 88) (by decide +kernel)) (by decide +kernel)
theorem mw_658 : (Cond.instanceMethod qy_M_isPart : Cond) ∈ gG := q_tables_1_4 (List.mem_of_getElem? (i := 90) (by decide +kernel)) (by decide +kernel)
theorem mw_659 : (Cond.code qy_M_isPart qc_M_isPart 4 (some .boolean) : Cond) ∈ gG := q_tables_1_4 (List.mem_of_getElem? (i := 91) rfl) rfl
theorem mw_660 : (Cond.methodLink qR_M 137 qy_M_know : Cond) ∈ gG := q_tables_1_4 (List.mem_of_getElem? (i := 92) (by decide +kernel)) (by decide +kernel)
theorem mw_661 : (Cond.instanceMethod qy_M_know : Cond) ∈ gG := q_tables_1_4 (List.mem_of_getElem? (i := 94) (by decide +kernel)) (by decide +kernel)
theorem mw_662 : (Cond.code qy_M_know qc_M_know 4 (none) : Cond) ∈ gG := q_tables_1_4 (List.mem_of_getElem? (i := 95) rfl) rfl
theorem mw_663 : (Cond.methodLink qR_M 80 qy_M_at : Cond) ∈ gG := q_tables_1_4 (List.mem_of_getElem? (i := 96) (by decide +kernel)) (by decide +kernel)
theorem mw_664 : (Cond.static qy_M_at : Cond) ∈ gG := q_tables_1_4 (List.mem_of_getElem? (i := 97) (by decide +kernel)) (by decide +kernel)
theorem mw_665 : (Cond.code qy_M_at qc_M_at 3 (some .int) : Cond) ∈ gG := q_tables_1_4 (List.mem_of_getElem? (i := 98) rfl) rfl
theorem mw_666 : (Cond.constant qR_M 84 2000000000 : Cond) ∈ gG := q_tables_1_4 (List.mem_of_getElem? (i := 99) (by decide +kernel)) (by decide +kernel)
theorem mw_667 : (Cond.methodLink qR_M 131 qy_M_work : Cond) ∈ gG := q_tables_1_4 (List.mem_of_getElem? (i := 100) (by decide +kernel)) (by decide +kernel)
theorem mw_668 : (Cond.instanceMethod qy_M_work : Cond) ∈ gG := q_tables_1_4 (List.mem_of_getElem? (i := 102) (by decide +kernel)) (by decide +kernel)
theorem mw_669 : (Cond.code qy_M_work qc_M_work 10 (some .boolean) : Cond) ∈ gG := q_tables_1_4 (List.mem_of_getElem? (i := 103) rfl) rfl
theorem mw_670 : (Cond.methodLink qR_M 111 qy_M_begin : Cond) ∈ gG := q_tables_1_4 (List.mem_of_getElem? (i := 104) (by decide +kernel)) (by decide +kernel)
theorem mw_671 : (Cond.instanceMethod qy_M_begin : Cond) ∈ gG := q_tables_1_4 (List.mem_of_getElem? (i := 106) (by decide +kernel)) (by decide +kernel)
theorem mw_672 : (Cond.code qy_M_begin qc_M_begin 5 (none) : Cond) ∈ gG := q_tables_1_4 (List.mem_of_getElem? (i := 107) rfl) rfl
theorem mw_673 : (Cond.methodLink qR_M 91 qy_M_length : Cond) ∈ gG := q_tables_1_4 (List.mem_of_getElem? (i := 108) (by decide +kernel)) (by decide +kernel)
theorem mw_674 : (Cond.instanceMethod qy_M_length : Cond) ∈ gG := q_tables_1_4 (List.mem_of_getElem? (i := 110) (by decide +kernel)) (by decide +kernel)
theorem mw_675 : (Cond.code qy_M_length qc_M_length 2 (some .int) : Cond) ∈ gG := q_tables_1_4 (List.mem_of_getElem? (i := 111) rfl) rfl
theorem mw_676 : (Cond.methodLink qR_M 115 qy_M_isParted : Cond) ∈ gG := q_tables_1_4 (List.mem_of_getElem? (i := 112) (by decide +kernel)) (by decide +kernel)
theorem mw_677 : (Cond.instanceMethod qy_M_isParted : Cond) ∈ gG := q_tables_1_4 (List.mem_of_getElem? (i := 114) (by decide +kernel)) (by decide +kernel)
theorem mw_678 : (Cond.code qy_M_isParted qc_M_isParted 5 (some .boolean) : Cond) ∈ gG := q_tables_1_4 (List.mem_of_getElem? (i := 115) rfl) rfl
theorem mw_679 : (Cond.methodLink qR_M 118 qy_M_ways : Cond) ∈ gG := q_tables_1_4 (List.mem_of_getElem? (i := 116) (by decide +kernel)) (by decide +kernel)
theorem mw_680 : (Cond.instanceMethod qy_M_ways : Cond) ∈ gG := q_tables_1_4 (List.mem_of_getElem? (i := 118) (by decide +kernel)) (by decide +kernel)
theorem mw_681 : (Cond.code qy_M_ways qc_M_ways 7 (some .int) : Cond) ∈ gG := q_tables_1_4 (List.mem_of_getElem? (i := 119) rfl) rfl
theorem mw_682 : (Cond.methodLink qR_M 88 qy_M_many : Cond) ∈ gG := q_tables_1_4 (List.mem_of_getElem? (i := 120) (by decide +kernel)) (by decide +kernel)
theorem mw_683 : (Cond.instanceMethod qy_M_many : Cond) ∈ gG := q_tables_1_4 (List.mem_of_getElem? (i := 122) (by decide +kernel)) (by decide +kernel)
theorem mw_684 : (Cond.code qy_M_many qc_M_many 4 (some .int) : Cond) ∈ gG := q_tables_1_4 (List.mem_of_getElem? (i := 123) rfl) rfl
theorem mw_685 : (Cond.methodLink qR_M 95 qy_M_times : Cond) ∈ gG := q_tables_1_4 (List.mem_of_getElem? (i := 124) (by decide +kernel)) (by decide +kernel)
theorem mw_686 : (Cond.static qy_M_times : Cond) ∈ gG := q_tables_1_4 (List.mem_of_getElem? (i := 125) (by decide +kernel)) (by decide +kernel)
theorem mw_687 : (Cond.code qy_M_times qc_M_times 4 (some .int) : Cond) ∈ gG := q_tables_1_4 (List.mem_of_getElem? (i := 126) rfl) rfl
theorem mw_688 : (Cond.constantLong qR_M 85 (1000000000 : Int64) : Cond) ∈ gG := q_tables_1_4 (List.mem_of_getElem? (i := 127) (by decide +kernel)) (by decide +kernel)
theorem mw_689 : (Cond.constant qR_M 87 1000000000 : Cond) ∈ gG := q_tables_1_4 (List.mem_of_getElem? (i := 128) (by decide +kernel)) (by decide +kernel)
theorem mw_690 : (Cond.methodLink qR_M 122 qy_M_plus : Cond) ∈ gG := q_tables_1_4 (List.mem_of_getElem? (i := 129) (by decide +kernel)) (by decide +kernel)
theorem mw_691 : (Cond.static qy_M_plus : Cond) ∈ gG := q_tables_1_4 (List.mem_of_getElem? (i := 130) (by decide +kernel)) (by decide +kernel)
theorem mw_692 : (Cond.code qy_M_plus qc_M_plus 2 (some .int) : Cond) ∈ gG := q_tables_1_4 (List.mem_of_getElem? (i := 131) rfl) rfl
theorem mw_693 : (Cond.methodLink qR_M 125 qy_M_price : Cond) ∈ gG := q_tables_1_4 (List.mem_of_getElem? (i := 132) (by decide +kernel)) (by decide +kernel)
theorem mw_694 : (Cond.instanceMethod qy_M_price : Cond) ∈ gG := q_tables_1_4 (List.mem_of_getElem? (i := 134) (by decide +kernel)) (by decide +kernel)
theorem mw_695 : (Cond.code qy_M_price qc_M_price 7 (some .int) : Cond) ∈ gG := q_tables_1_4 (List.mem_of_getElem? (i := 135) rfl) rfl
theorem mw_696 : (Cond.methodLink qR_M 99 qy_M_cheapest : Cond) ∈ gG := q_tables_1_4 (List.mem_of_getElem? (i := 136) (by decide +kernel)) (by decide +kernel)
theorem mw_697 : (Cond.instanceMethod qy_M_cheapest : Cond) ∈ gG := q_tables_1_4 (List.mem_of_getElem? (i := 138) (by decide +kernel)) (by decide +kernel)
theorem mw_698 : (Cond.code qy_M_cheapest qc_M_cheapest 4 (some .int) : Cond) ∈ gG := q_tables_1_4 (List.mem_of_getElem? (i := 139) rfl) rfl
theorem mw_699 : (Cond.methodLink qR_M 102 qy_M_sum : Cond) ∈ gG := q_tables_1_4 (List.mem_of_getElem? (i := 140) (by decide +kernel)) (by decide +kernel)
theorem mw_700 : (Cond.static qy_M_sum : Cond) ∈ gG := q_tables_1_4 (List.mem_of_getElem? (i := 141) (by decide +kernel)) (by decide +kernel)
theorem mw_701 : (Cond.code qy_M_sum qc_M_sum 2 (some .int) : Cond) ∈ gG := q_tables_1_4 (List.mem_of_getElem? (i := 142) rfl) rfl
theorem mw_702 : (Cond.methodLink qR_M 128 qy_M_goOn : Cond) ∈ gG := q_tables_1_4 (List.mem_of_getElem? (i := 143) (by decide +kernel)) (by decide +kernel)
theorem mw_703 : (Cond.instanceMethod qy_M_goOn : Cond) ∈ gG := q_tables_1_4 (List.mem_of_getElem? (i := 145) (by decide +kernel)) (by decide +kernel)
theorem mw_704 : (Cond.code qy_M_goOn qc_M_goOn 5 (none) : Cond) ∈ gG := q_tables_1_4 (List.mem_of_getElem? (i := 146) rfl) rfl
theorem mw_705 : (Cond.methodLink qR_L 81 qy_M_cost : Cond) ∈ gG := q_tables_1_4 (List.mem_of_getElem? (i := 147) (by decide +kernel)) (by decide +kernel)
theorem mw_706 : (Cond.instanceMethod qy_M_cost : Cond) ∈ gG := q_tables_1_4 (List.mem_of_getElem? (i := 148) (by decide +kernel)) (by decide +kernel)
theorem mw_707 : (Cond.selects qR_M qy_M_cost qy_M_cost : Cond) ∈ gG := q_tables_1_4 (List.mem_of_getElem? (i := 149) (by decide +kernel)) (by decide +kernel)
theorem mw_708 : (Cond.code qy_M_cost qc_M_cost 4 (some .int) : Cond) ∈ gG := q_tables_1_4 (List.mem_of_getElem? (i := 150) rfl) rfl
theorem mw_709 : (Cond.methodLink qR_L 85 qy_M_tree : Cond) ∈ gG := q_tables_1_4 (List.mem_of_getElem? (i := 151) (by decide +kernel)) (by decide +kernel)
theorem mw_710 : (Cond.instanceMethod qy_M_tree : Cond) ∈ gG := q_tables_1_4 (List.mem_of_getElem? (i := 152) (by decide +kernel)) (by decide +kernel)
theorem mw_711 : (Cond.selects qR_M qy_M_tree qy_M_tree : Cond) ∈ gG := q_tables_1_4 (List.mem_of_getElem? (i := 153) (by decide +kernel)) (by decide +kernel)
theorem mw_712 : (Cond.code qy_M_tree qc_M_tree 9 (some .int) : Cond) ∈ gG := q_tables_1_4 (List.mem_of_getElem? (i := 154) rfl) rfl
theorem mw_713 : (Cond.constant qR_M 153 999999 : Cond) ∈ gG := q_tables_1_4 (List.mem_of_getElem? (i := 155) (by decide +kernel)) (by decide +kernel)
theorem mw_714 : (Cond.methodLink qR_M 143 qy_M_asks : Cond) ∈ gG := q_tables_1_4 (List.mem_of_getElem? (i := 156) (by decide +kernel)) (by decide +kernel)
theorem mw_715 : (Cond.instanceMethod qy_M_asks : Cond) ∈ gG := q_tables_1_4 (List.mem_of_getElem? (i := 158) (by decide +kernel)) (by decide +kernel)
theorem mw_716 : (Cond.code qy_M_asks qc_M_asks 6 (none) : Cond) ∈ gG := q_tables_1_4 (List.mem_of_getElem? (i := 159) rfl) rfl
theorem mw_717 : (Cond.methodLink qR_M 154 qy_M_one : Cond) ∈ gG := q_tables_1_4 (List.mem_of_getElem? (i := 160) (by decide +kernel)) (by decide +kernel)
theorem mw_718 : (Cond.instanceMethod qy_M_one : Cond) ∈ gG := q_tables_1_4 (List.mem_of_getElem? (i := 162) (by decide +kernel)) (by decide +kernel)
theorem mw_719 : (Cond.code qy_M_one qc_M_one 14 (none) : Cond) ∈ gG := q_tables_1_4 (List.mem_of_getElem? (i := 163) rfl) rfl
theorem mw_720 : (Cond.methodLink qR_M 150 qy_M_asksItem : Cond) ∈ gG := q_tables_1_4 (List.mem_of_getElem? (i := 164) (by decide +kernel)) (by decide +kernel)
theorem mw_721 : (Cond.instanceMethod qy_M_asksItem : Cond) ∈ gG := q_tables_1_4 (List.mem_of_getElem? (i := 166) (by decide +kernel)) (by decide +kernel)
theorem mw_722 : (Cond.code qy_M_asksItem qc_M_asksItem 6 (none) : Cond) ∈ gG := q_tables_1_4 (List.mem_of_getElem? (i := 167) rfl) rfl
theorem mw_723 : (Cond.methodLink qR_L 89 qy_M_node : Cond) ∈ gG := q_tables_1_4 (List.mem_of_getElem? (i := 168) (by decide +kernel)) (by decide +kernel)
theorem mw_724 : (Cond.instanceMethod qy_M_node : Cond) ∈ gG := q_tables_1_4 (List.mem_of_getElem? (i := 169) (by decide +kernel)) (by decide +kernel)
theorem mw_725 : (Cond.selects qR_M qy_M_node qy_M_node : Cond) ∈ gG := q_tables_1_4 (List.mem_of_getElem? (i := 170) (by decide +kernel)) (by decide +kernel)
theorem mw_726 : (Cond.code qy_M_node qc_M_node 4 (some .int) : Cond) ∈ gG := q_tables_1_4 (List.mem_of_getElem? (i := 171) rfl) rfl
theorem mw_727 : (Cond.methodLink qR_L 92 qy_M_next : Cond) ∈ gG := q_tables_1_4 (List.mem_of_getElem? (i := 172) (by decide +kernel)) (by decide +kernel)
theorem mw_728 : (Cond.instanceMethod qy_M_next : Cond) ∈ gG := q_tables_1_4 (List.mem_of_getElem? (i := 173) (by decide +kernel)) (by decide +kernel)
theorem mw_729 : (Cond.selects qR_M qy_M_next qy_M_next : Cond) ∈ gG := q_tables_1_4 (List.mem_of_getElem? (i := 174) (by decide +kernel)) (by decide +kernel)
theorem mw_730 : (Cond.code qy_M_next qc_M_next 5 (some .int) : Cond) ∈ gG := q_tables_1_4 (List.mem_of_getElem? (i := 175) rfl) rfl
theorem mw_731 : (Cond.methodLink qR_M 169 qy_M_findUseful : Cond) ∈ gG := q_tables_1_4 (List.mem_of_getElem? (i := 176) (by decide +kernel)) (by decide +kernel)
theorem mw_732 : (Cond.instanceMethod qy_M_findUseful : Cond) ∈ gG := q_tables_1_4 (List.mem_of_getElem? (i := 178) (by decide +kernel)) (by decide +kernel)
theorem mw_733 : (Cond.code qy_M_findUseful qc_M_findUseful 4 (none) : Cond) ∈ gG := q_tables_1_4 (List.mem_of_getElem? (i := 179) rfl) rfl
theorem mw_734 : (Cond.methodLink qR_M 157 qy_M_isUseful : Cond) ∈ gG := q_tables_1_4 (List.mem_of_getElem? (i := 180) (by decide +kernel)) (by decide +kernel)
theorem mw_735 : (Cond.instanceMethod qy_M_isUseful : Cond) ∈ gG := q_tables_1_4 (List.mem_of_getElem? (i := 182) (by decide +kernel)) (by decide +kernel)
theorem mw_736 : (Cond.code qy_M_isUseful qc_M_isUseful 2 (some .boolean) : Cond) ∈ gG := q_tables_1_4 (List.mem_of_getElem? (i := 183) rfl) rfl
theorem mw_737 : (Cond.methodLink qR_M 172 qy_M_wants : Cond) ∈ gG := q_tables_1_4 (List.mem_of_getElem? (i := 184) (by decide +kernel)) (by decide +kernel)
theorem mw_738 : (Cond.instanceMethod qy_M_wants : Cond) ∈ gG := q_tables_1_4 (List.mem_of_getElem? (i := 186) (by decide +kernel)) (by decide +kernel)
theorem mw_739 : (Cond.code qy_M_wants qc_M_wants 6 (none) : Cond) ∈ gG := q_tables_1_4 (List.mem_of_getElem? (i := 187) rfl) rfl
theorem mw_740 : (Cond.methodLink qR_M 166 qy_M_want : Cond) ∈ gG := q_tables_1_4 (List.mem_of_getElem? (i := 188) (by decide +kernel)) (by decide +kernel)
theorem mw_741 : (Cond.instanceMethod qy_M_want : Cond) ∈ gG := q_tables_1_4 (List.mem_of_getElem? (i := 190) (by decide +kernel)) (by decide +kernel)
theorem mw_742 : (Cond.code qy_M_want qc_M_want 4 (none) : Cond) ∈ gG := q_tables_1_4 (List.mem_of_getElem? (i := 191) rfl) rfl
theorem mw_743 : (Cond.arrayClass Jvm.ClassFile.FieldType.long : Cond) ∈ gG := q_tables_1_4 (List.mem_of_getElem? (i := 192) (by decide +kernel)) (by decide +kernel)
theorem mw_744 : (Cond.selects qR_G qy_G_reachedFrom qy_G_reachedFrom : Cond) ∈ gG := by
  have h : ((qy_G_reachedFrom, 7) : MethodName × Nat) ∈ lw_privs_1 := List.mem_of_getElem? (i := 1) (by decide +kernel)
  exact List.mem_filter.mpr ⟨List.mem_append_left _ (List.mem_map.mpr ⟨_, List.mem_append_left _ h, rfl⟩), by decide +kernel⟩
theorem mw_745 : (Cond.selects qR_G qy_G_learnStep qy_G_learnStep : Cond) ∈ gG := by
  have h : ((qy_G_learnStep, 7) : MethodName × Nat) ∈ lw_privs_1 := List.mem_of_getElem? (i := 2) (by decide +kernel)
  exact List.mem_filter.mpr ⟨List.mem_append_left _ (List.mem_map.mpr ⟨_, List.mem_append_left _ h, rfl⟩), by decide +kernel⟩
theorem mw_746 : (Cond.selects qR_G qy_G_orderBySteps qy_G_orderBySteps : Cond) ∈ gG := by
  have h : ((qy_G_orderBySteps, 7) : MethodName × Nat) ∈ lw_privs_1 := List.mem_of_getElem? (i := 3) (by decide +kernel)
  exact List.mem_filter.mpr ⟨List.mem_append_left _ (List.mem_map.mpr ⟨_, List.mem_append_left _ h, rfl⟩), by decide +kernel⟩
theorem mw_747 : (Cond.selects qR_G qy_G_learnFertile qy_G_learnFertile : Cond) ∈ gG := by
  have h : ((qy_G_learnFertile, 7) : MethodName × Nat) ∈ lw_privs_1 := List.mem_of_getElem? (i := 4) (by decide +kernel)
  exact List.mem_filter.mpr ⟨List.mem_append_left _ (List.mem_map.mpr ⟨_, List.mem_append_left _ h, rfl⟩), by decide +kernel⟩
theorem mw_748 : (Cond.selects qR_G qy_G_isFertile qy_G_isFertile : Cond) ∈ gG := by
  have h : ((qy_G_isFertile, 7) : MethodName × Nat) ∈ lw_privs_1 := List.mem_of_getElem? (i := 5) (by decide +kernel)
  exact List.mem_filter.mpr ⟨List.mem_append_left _ (List.mem_map.mpr ⟨_, List.mem_append_left _ h, rfl⟩), by decide +kernel⟩
theorem mw_749 : (Cond.selects qR_H qy_H_checkPart qy_H_checkPart : Cond) ∈ gG := by
  have h : ((qy_H_checkPart, 6) : MethodName × Nat) ∈ lw_privs_1 := List.mem_of_getElem? (i := 6) (by decide +kernel)
  exact List.mem_filter.mpr ⟨List.mem_append_left _ (List.mem_map.mpr ⟨_, List.mem_append_left _ h, rfl⟩), by decide +kernel⟩
theorem mw_750 : (Cond.selects qR_C qy_C_fillColumn qy_C_fillColumn : Cond) ∈ gG := by
  have h : ((qy_C_fillColumn, 7) : MethodName × Nat) ∈ lw_privs_1 := List.mem_of_getElem? (i := 7) (by decide +kernel)
  exact List.mem_filter.mpr ⟨List.mem_append_left _ (List.mem_map.mpr ⟨_, List.mem_append_left _ h, rfl⟩), by decide +kernel⟩
theorem mw_751 : (Cond.selects qR_C qy_C_fillRests qy_C_fillRests : Cond) ∈ gG := by
  have h : ((qy_C_fillRests, 7) : MethodName × Nat) ∈ lw_privs_1 := List.mem_of_getElem? (i := 8) (by decide +kernel)
  exact List.mem_filter.mpr ⟨List.mem_append_left _ (List.mem_map.mpr ⟨_, List.mem_append_left _ h, rfl⟩), by decide +kernel⟩
theorem mw_752 : (Cond.selects qR_C qy_C_fillRest qy_C_fillRest : Cond) ∈ gG := by
  have h : ((qy_C_fillRest, 7) : MethodName × Nat) ∈ lw_privs_1 := List.mem_of_getElem? (i := 9) (by decide +kernel)
  exact List.mem_filter.mpr ⟨List.mem_append_left _ (List.mem_map.mpr ⟨_, List.mem_append_left _ h, rfl⟩), by decide +kernel⟩
theorem mw_753 : (Cond.selects qR_C qy_C_fillPart qy_C_fillPart : Cond) ∈ gG := by
  have h : ((qy_C_fillPart, 7) : MethodName × Nat) ∈ lw_privs_1 := List.mem_of_getElem? (i := 10) (by decide +kernel)
  exact List.mem_filter.mpr ⟨List.mem_append_left _ (List.mem_map.mpr ⟨_, List.mem_append_left _ h, rfl⟩), by decide +kernel⟩
theorem mw_754 : (Cond.selects qR_C qy_C_write qy_C_write : Cond) ∈ gG := by
  have h : ((qy_C_write, 7) : MethodName × Nat) ∈ lw_privs_1 := List.mem_of_getElem? (i := 11) (by decide +kernel)
  exact List.mem_filter.mpr ⟨List.mem_append_left _ (List.mem_map.mpr ⟨_, List.mem_append_left _ h, rfl⟩), by decide +kernel⟩
theorem mw_755 : (Cond.selects qR_C qy_C_addProduction qy_C_addProduction : Cond) ∈ gG := by
  have h : ((qy_C_addProduction, 7) : MethodName × Nat) ∈ lw_privs_1 := List.mem_of_getElem? (i := 12) (by decide +kernel)
  exact List.mem_filter.mpr ⟨List.mem_append_left _ (List.mem_map.mpr ⟨_, List.mem_append_left _ h, rfl⟩), by decide +kernel⟩
theorem mw_756 : (Cond.selects qR_F qy_F_pileUp qy_F_pileUp : Cond) ∈ gG := by
  have h : ((qy_F_pileUp, 14) : MethodName × Nat) ∈ lw_privs_1 := List.mem_of_getElem? (i := 13) (by decide +kernel)
  exact List.mem_filter.mpr ⟨List.mem_append_left _ (List.mem_map.mpr ⟨_, List.mem_append_left _ h, rfl⟩), by decide +kernel⟩
theorem mw_757 : (Cond.selects qR_F qy_F_findProduction qy_F_findProduction : Cond) ∈ gG := by
  have h : ((qy_F_findProduction, 14) : MethodName × Nat) ∈ lw_privs_1 := List.mem_of_getElem? (i := 14) (by decide +kernel)
  exact List.mem_filter.mpr ⟨List.mem_append_left _ (List.mem_map.mpr ⟨_, List.mem_append_left _ h, rfl⟩), by decide +kernel⟩
theorem mw_758 : (Cond.selects qR_F qy_F_findSplit qy_F_findSplit : Cond) ∈ gG := by
  have h : ((qy_F_findSplit, 14) : MethodName × Nat) ∈ lw_privs_1 := List.mem_of_getElem? (i := 15) (by decide +kernel)
  exact List.mem_filter.mpr ⟨List.mem_append_left _ (List.mem_map.mpr ⟨_, List.mem_append_left _ h, rfl⟩), by decide +kernel⟩
theorem mw_759 : (Cond.selects qR_F qy_F_isWithin qy_F_isWithin : Cond) ∈ gG := by
  have h : ((qy_F_isWithin, 14) : MethodName × Nat) ∈ lw_privs_2 := List.mem_of_getElem? (i := 0) (by decide +kernel)
  exact List.mem_filter.mpr ⟨List.mem_append_left _ (List.mem_map.mpr ⟨_, List.mem_append_right _ (List.mem_append_left _ h), rfl⟩), by decide +kernel⟩
theorem mw_760 : (Cond.selects qR_F qy_F_splitTrees qy_F_splitTrees : Cond) ∈ gG := by
  have h : ((qy_F_splitTrees, 14) : MethodName × Nat) ∈ lw_privs_2 := List.mem_of_getElem? (i := 1) (by decide +kernel)
  exact List.mem_filter.mpr ⟨List.mem_append_left _ (List.mem_map.mpr ⟨_, List.mem_append_right _ (List.mem_append_left _ h), rfl⟩), by decide +kernel⟩
theorem mw_761 : (Cond.selects qR_F qy_F_splitCost qy_F_splitCost : Cond) ∈ gG := by
  have h : ((qy_F_splitCost, 14) : MethodName × Nat) ∈ lw_privs_2 := List.mem_of_getElem? (i := 2) (by decide +kernel)
  exact List.mem_filter.mpr ⟨List.mem_append_left _ (List.mem_map.mpr ⟨_, List.mem_append_right _ (List.mem_append_left _ h), rfl⟩), by decide +kernel⟩
theorem mw_762 : (Cond.selects qR_F qy_F_pileUpItems qy_F_pileUpItems : Cond) ∈ gG := by
  have h : ((qy_F_pileUpItems, 14) : MethodName × Nat) ∈ lw_privs_2 := List.mem_of_getElem? (i := 3) (by decide +kernel)
  exact List.mem_filter.mpr ⟨List.mem_append_left _ (List.mem_map.mpr ⟨_, List.mem_append_right _ (List.mem_append_left _ h), rfl⟩), by decide +kernel⟩
theorem mw_763 : (Cond.selects qR_O qy_O_lookFrom qy_O_lookFrom : Cond) ∈ gG := by
  have h : ((qy_O_lookFrom, 4) : MethodName × Nat) ∈ lw_privs_2 := List.mem_of_getElem? (i := 4) (by decide +kernel)
  exact List.mem_filter.mpr ⟨List.mem_append_left _ (List.mem_map.mpr ⟨_, List.mem_append_right _ (List.mem_append_left _ h), rfl⟩), by decide +kernel⟩
theorem mw_764 : (Cond.selects qR_O qy_O_write qy_O_write : Cond) ∈ gG := by
  have h : ((qy_O_write, 4) : MethodName × Nat) ∈ lw_privs_2 := List.mem_of_getElem? (i := 5) (by decide +kernel)
  exact List.mem_filter.mpr ⟨List.mem_append_left _ (List.mem_map.mpr ⟨_, List.mem_append_right _ (List.mem_append_left _ h), rfl⟩), by decide +kernel⟩
theorem mw_765 : (Cond.selects qR_O qy_O_nextsBehindFirst qy_O_nextsBehindFirst : Cond) ∈ gG := by
  have h : ((qy_O_nextsBehindFirst, 4) : MethodName × Nat) ∈ lw_privs_2 := List.mem_of_getElem? (i := 6) (by decide +kernel)
  exact List.mem_filter.mpr ⟨List.mem_append_left _ (List.mem_map.mpr ⟨_, List.mem_append_right _ (List.mem_append_left _ h), rfl⟩), by decide +kernel⟩
theorem mw_766 : (Cond.selects qR_O qy_O_itemNexts qy_O_itemNexts : Cond) ∈ gG := by
  have h : ((qy_O_itemNexts, 4) : MethodName × Nat) ∈ lw_privs_2 := List.mem_of_getElem? (i := 7) (by decide +kernel)
  exact List.mem_filter.mpr ⟨List.mem_append_left _ (List.mem_map.mpr ⟨_, List.mem_append_right _ (List.mem_append_left _ h), rfl⟩), by decide +kernel⟩
theorem mw_767 : (Cond.selects qR_O qy_O_nextsBehindSecond qy_O_nextsBehindSecond : Cond) ∈ gG := by
  have h : ((qy_O_nextsBehindSecond, 4) : MethodName × Nat) ∈ lw_privs_2 := List.mem_of_getElem? (i := 8) (by decide +kernel)
  exact List.mem_filter.mpr ⟨List.mem_append_left _ (List.mem_map.mpr ⟨_, List.mem_append_right _ (List.mem_append_left _ h), rfl⟩), by decide +kernel⟩
theorem mw_768 : (Cond.selects qR_O qy_O_addTo qy_O_addTo : Cond) ∈ gG := by
  have h : ((qy_O_addTo, 4) : MethodName × Nat) ∈ lw_privs_2 := List.mem_of_getElem? (i := 9) (by decide +kernel)
  exact List.mem_filter.mpr ⟨List.mem_append_left _ (List.mem_map.mpr ⟨_, List.mem_append_right _ (List.mem_append_left _ h), rfl⟩), by decide +kernel⟩
theorem mw_769 : (Cond.selects qR_O qy_O_addFirstItems qy_O_addFirstItems : Cond) ∈ gG := by
  have h : ((qy_O_addFirstItems, 4) : MethodName × Nat) ∈ lw_privs_2 := List.mem_of_getElem? (i := 10) (by decide +kernel)
  exact List.mem_filter.mpr ⟨List.mem_append_left _ (List.mem_map.mpr ⟨_, List.mem_append_right _ (List.mem_append_left _ h), rfl⟩), by decide +kernel⟩
theorem mw_770 : (Cond.selects qR_M qy_M_leads qy_M_leads : Cond) ∈ gG := by
  have h : ((qy_M_leads, 23) : MethodName × Nat) ∈ lw_privs_2 := List.mem_of_getElem? (i := 11) (by decide +kernel)
  exact List.mem_filter.mpr ⟨List.mem_append_left _ (List.mem_map.mpr ⟨_, List.mem_append_right _ (List.mem_append_left _ h), rfl⟩), by decide +kernel⟩
theorem mw_771 : (Cond.selects qR_M qy_M_refuse qy_M_refuse : Cond) ∈ gG := by
  have h : ((qy_M_refuse, 23) : MethodName × Nat) ∈ lw_privs_2 := List.mem_of_getElem? (i := 12) (by decide +kernel)
  exact List.mem_filter.mpr ⟨List.mem_append_left _ (List.mem_map.mpr ⟨_, List.mem_append_right _ (List.mem_append_left _ h), rfl⟩), by decide +kernel⟩
theorem mw_772 : (Cond.selects qR_M qy_M_isPart qy_M_isPart : Cond) ∈ gG := by
  have h : ((qy_M_isPart, 23) : MethodName × Nat) ∈ lw_privs_2 := List.mem_of_getElem? (i := 13) (by decide +kernel)
  exact List.mem_filter.mpr ⟨List.mem_append_left _ (List.mem_map.mpr ⟨_, List.mem_append_right _ (List.mem_append_left _ h), rfl⟩), by decide +kernel⟩
theorem mw_773 : (Cond.selects qR_M qy_M_know qy_M_know : Cond) ∈ gG := by
  have h : ((qy_M_know, 23) : MethodName × Nat) ∈ lw_privs_2 := List.mem_of_getElem? (i := 14) (by decide +kernel)
  exact List.mem_filter.mpr ⟨List.mem_append_left _ (List.mem_map.mpr ⟨_, List.mem_append_right _ (List.mem_append_left _ h), rfl⟩), by decide +kernel⟩
theorem mw_774 : (Cond.selects qR_M qy_M_work qy_M_work : Cond) ∈ gG := by
  have h : ((qy_M_work, 23) : MethodName × Nat) ∈ lw_privs_2 := List.mem_of_getElem? (i := 15) (by decide +kernel)
  exact List.mem_filter.mpr ⟨List.mem_append_left _ (List.mem_map.mpr ⟨_, List.mem_append_right _ (List.mem_append_left _ h), rfl⟩), by decide +kernel⟩
theorem mw_775 : (Cond.selects qR_M qy_M_begin qy_M_begin : Cond) ∈ gG := by
  have h : ((qy_M_begin, 23) : MethodName × Nat) ∈ lw_privs_3 := List.mem_of_getElem? (i := 0) (by decide +kernel)
  exact List.mem_filter.mpr ⟨List.mem_append_left _ (List.mem_map.mpr ⟨_, List.mem_append_right _ (List.mem_append_right _ (h)), rfl⟩), by decide +kernel⟩
theorem mw_776 : (Cond.selects qR_M qy_M_length qy_M_length : Cond) ∈ gG := by
  have h : ((qy_M_length, 23) : MethodName × Nat) ∈ lw_privs_3 := List.mem_of_getElem? (i := 1) (by decide +kernel)
  exact List.mem_filter.mpr ⟨List.mem_append_left _ (List.mem_map.mpr ⟨_, List.mem_append_right _ (List.mem_append_right _ (h)), rfl⟩), by decide +kernel⟩
theorem mw_777 : (Cond.selects qR_M qy_M_isParted qy_M_isParted : Cond) ∈ gG := by
  have h : ((qy_M_isParted, 23) : MethodName × Nat) ∈ lw_privs_3 := List.mem_of_getElem? (i := 2) (by decide +kernel)
  exact List.mem_filter.mpr ⟨List.mem_append_left _ (List.mem_map.mpr ⟨_, List.mem_append_right _ (List.mem_append_right _ (h)), rfl⟩), by decide +kernel⟩
theorem mw_778 : (Cond.selects qR_M qy_M_ways qy_M_ways : Cond) ∈ gG := by
  have h : ((qy_M_ways, 23) : MethodName × Nat) ∈ lw_privs_3 := List.mem_of_getElem? (i := 3) (by decide +kernel)
  exact List.mem_filter.mpr ⟨List.mem_append_left _ (List.mem_map.mpr ⟨_, List.mem_append_right _ (List.mem_append_right _ (h)), rfl⟩), by decide +kernel⟩
theorem mw_779 : (Cond.selects qR_M qy_M_many qy_M_many : Cond) ∈ gG := by
  have h : ((qy_M_many, 23) : MethodName × Nat) ∈ lw_privs_3 := List.mem_of_getElem? (i := 4) (by decide +kernel)
  exact List.mem_filter.mpr ⟨List.mem_append_left _ (List.mem_map.mpr ⟨_, List.mem_append_right _ (List.mem_append_right _ (h)), rfl⟩), by decide +kernel⟩
theorem mw_780 : (Cond.selects qR_M qy_M_price qy_M_price : Cond) ∈ gG := by
  have h : ((qy_M_price, 23) : MethodName × Nat) ∈ lw_privs_3 := List.mem_of_getElem? (i := 5) (by decide +kernel)
  exact List.mem_filter.mpr ⟨List.mem_append_left _ (List.mem_map.mpr ⟨_, List.mem_append_right _ (List.mem_append_right _ (h)), rfl⟩), by decide +kernel⟩
theorem mw_781 : (Cond.selects qR_M qy_M_cheapest qy_M_cheapest : Cond) ∈ gG := by
  have h : ((qy_M_cheapest, 23) : MethodName × Nat) ∈ lw_privs_3 := List.mem_of_getElem? (i := 6) (by decide +kernel)
  exact List.mem_filter.mpr ⟨List.mem_append_left _ (List.mem_map.mpr ⟨_, List.mem_append_right _ (List.mem_append_right _ (h)), rfl⟩), by decide +kernel⟩
theorem mw_782 : (Cond.selects qR_M qy_M_goOn qy_M_goOn : Cond) ∈ gG := by
  have h : ((qy_M_goOn, 23) : MethodName × Nat) ∈ lw_privs_3 := List.mem_of_getElem? (i := 7) (by decide +kernel)
  exact List.mem_filter.mpr ⟨List.mem_append_left _ (List.mem_map.mpr ⟨_, List.mem_append_right _ (List.mem_append_right _ (h)), rfl⟩), by decide +kernel⟩
theorem mw_783 : (Cond.selects qR_M qy_M_asks qy_M_asks : Cond) ∈ gG := by
  have h : ((qy_M_asks, 23) : MethodName × Nat) ∈ lw_privs_3 := List.mem_of_getElem? (i := 8) (by decide +kernel)
  exact List.mem_filter.mpr ⟨List.mem_append_left _ (List.mem_map.mpr ⟨_, List.mem_append_right _ (List.mem_append_right _ (h)), rfl⟩), by decide +kernel⟩
theorem mw_784 : (Cond.selects qR_M qy_M_one qy_M_one : Cond) ∈ gG := by
  have h : ((qy_M_one, 23) : MethodName × Nat) ∈ lw_privs_3 := List.mem_of_getElem? (i := 9) (by decide +kernel)
  exact List.mem_filter.mpr ⟨List.mem_append_left _ (List.mem_map.mpr ⟨_, List.mem_append_right _ (List.mem_append_right _ (h)), rfl⟩), by decide +kernel⟩
theorem mw_785 : (Cond.selects qR_M qy_M_asksItem qy_M_asksItem : Cond) ∈ gG := by
  have h : ((qy_M_asksItem, 23) : MethodName × Nat) ∈ lw_privs_3 := List.mem_of_getElem? (i := 10) (by decide +kernel)
  exact List.mem_filter.mpr ⟨List.mem_append_left _ (List.mem_map.mpr ⟨_, List.mem_append_right _ (List.mem_append_right _ (h)), rfl⟩), by decide +kernel⟩
theorem mw_786 : (Cond.selects qR_M qy_M_findUseful qy_M_findUseful : Cond) ∈ gG := by
  have h : ((qy_M_findUseful, 23) : MethodName × Nat) ∈ lw_privs_3 := List.mem_of_getElem? (i := 11) (by decide +kernel)
  exact List.mem_filter.mpr ⟨List.mem_append_left _ (List.mem_map.mpr ⟨_, List.mem_append_right _ (List.mem_append_right _ (h)), rfl⟩), by decide +kernel⟩
theorem mw_787 : (Cond.selects qR_M qy_M_isUseful qy_M_isUseful : Cond) ∈ gG := by
  have h : ((qy_M_isUseful, 23) : MethodName × Nat) ∈ lw_privs_3 := List.mem_of_getElem? (i := 12) (by decide +kernel)
  exact List.mem_filter.mpr ⟨List.mem_append_left _ (List.mem_map.mpr ⟨_, List.mem_append_right _ (List.mem_append_right _ (h)), rfl⟩), by decide +kernel⟩
theorem mw_788 : (Cond.selects qR_M qy_M_wants qy_M_wants : Cond) ∈ gG := by
  have h : ((qy_M_wants, 23) : MethodName × Nat) ∈ lw_privs_3 := List.mem_of_getElem? (i := 13) (by decide +kernel)
  exact List.mem_filter.mpr ⟨List.mem_append_left _ (List.mem_map.mpr ⟨_, List.mem_append_right _ (List.mem_append_right _ (h)), rfl⟩), by decide +kernel⟩
theorem mw_789 : (Cond.selects qR_M qy_M_want qy_M_want : Cond) ∈ gG := by
  have h : ((qy_M_want, 23) : MethodName × Nat) ∈ lw_privs_3 := List.mem_of_getElem? (i := 14) (by decide +kernel)
  exact List.mem_filter.mpr ⟨List.mem_append_left _ (List.mem_map.mpr ⟨_, List.mem_append_right _ (List.mem_append_right _ (h)), rfl⟩), by decide +kernel⟩
theorem qi_C : ∀ w ∈ u_ws qR_C qT_C 7, w ∈ gG := by decide +kernel
theorem qi_F : ∀ w ∈ u_ws qR_F qT_F 14, w ∈ gG := by decide +kernel
theorem qi_G : ∀ w ∈ u_ws qR_G qT_G 7, w ∈ gG := by decide +kernel
theorem qi_O : ∀ w ∈ u_ws qR_O qT_O 4, w ∈ gG := by decide +kernel
theorem qi_R : ∀ w ∈ u_ws qR_R qT_R 2, w ∈ gG := by decide +kernel
theorem qi_T : ∀ w ∈ u_ws qR_T qT_T 2, w ∈ gG := by decide +kernel
theorem qi_H : ∀ w ∈ u_ws qR_H qT_H 6, w ∈ gG := by decide +kernel
theorem qi_M : ∀ w ∈ u_ws qR_M qT_M 23, w ∈ gG := by decide +kernel
def qw_H_init : List Cond := .code qy_H_init qc_H_init 1 (none) :: gG
theorem qh_H_init : qy_H_init.cls = qR_H ∧ qy_H_init.cls ≠ "java/lang/invoke/MethodHandle" ∧ qy_H_init.cls ≠ "java/lang/invoke/VarHandle" ∧ (parseMethodDescriptor qy_H_init.desc).map (fun d => d.parameters.length) = some 0 := by decide +kernel
def qw_G_init : List Cond := .code qy_G_init qc_G_init 1 (none) :: gG
theorem qh_G_init : qy_G_init.cls = qR_G ∧ qy_G_init.cls ≠ "java/lang/invoke/MethodHandle" ∧ qy_G_init.cls ≠ "java/lang/invoke/VarHandle" ∧ (parseMethodDescriptor qy_G_init.desc).map (fun d => d.parameters.length) = some 0 := by decide +kernel
def qw_R_init : List Cond := .code qy_R_init qc_R_init 1 (none) :: gG
