/-! ===== the 45 cases, and the loop over the script (laid by a program: wip/whole/laycases.py) ===== -/
section S98D
variable {xs : Nat → Int32} {L : Nat} {f a : Nat → Nat → Int32} {g : Nat → Nat → Int64} {i : Int32}
theorem cs_0 (hs : ST f a g) (q1 : ma_in (i + (1 : Int32)) L = true) (q2 : ma_in (i + (2 : Int32)) L = true) (q3 : ma_in (i + (3 : Int32)) L = true) (q4 : ma_in (i + (4 : Int32)) L = true) : STEP xs L 228 i f a g :=
  law_step (hop := op_feed) (ht := mt_55) (hr := rfl) hs (fun _ _ _ => b233_228 i q1 q2 q3) (fun s0 _ _ _ => b233_257 i s0 q1 q2 q3) (fun s0 s1 _ _ _ => b233_286 i s0 s1)
theorem cs_1 (hs : ST f a g) (q1 : ma_in (i + (1 : Int32)) L = true) (q2 : ma_in (i + (2 : Int32)) L = true) (q3 : ma_in (i + (3 : Int32)) L = true) (q4 : ma_in (i + (4 : Int32)) L = true) : STEP xs L 291 i f a g :=
  law_step (hop := op_autumn) (ht := mt_57) (hr := rfl) hs (fun _ _ _ => b233_291 i ) (fun s0 _ _ _ => b233_295 i s0 ) (fun s0 s1 _ _ _ => b233_299 i s0 s1)
theorem cs_2 (hs : ST f a g) (q1 : ma_in (i + (1 : Int32)) L = true) (q2 : ma_in (i + (2 : Int32)) L = true) (q3 : ma_in (i + (3 : Int32)) L = true) (q4 : ma_in (i + (4 : Int32)) L = true) : STEP xs L 304 i f a g :=
  law_step (hop := (op_set.ops)) (ht := mt_59) (hr := rfl) hs (fun _ _ _ => b233_304 i q1 q2) (fun s0 _ _ _ => b233_318 i s0 q1 q2) (fun s0 s1 _ _ _ => b233_332 i s0 s1)
theorem cs_3 (hs : ST f a g) (q1 : ma_in (i + (1 : Int32)) L = true) (q2 : ma_in (i + (2 : Int32)) L = true) (q3 : ma_in (i + (3 : Int32)) L = true) (q4 : ma_in (i + (4 : Int32)) L = true) : STEP xs L 337 i f a g :=
  law_step (hop := (op_lawOf.ops)) (ht := mt_60) (hr := rfl) hs (fun _ _ _ => b233_337 i q1) (fun s0 _ _ _ => b233_346 i s0 q1) (fun s0 s1 _ _ _ => b233_355 i s0 s1)
theorem cs_4 (hs : ST f a g) (q1 : ma_in (i + (1 : Int32)) L = true) (q2 : ma_in (i + (2 : Int32)) L = true) (q3 : ma_in (i + (3 : Int32)) L = true) (q4 : ma_in (i + (4 : Int32)) L = true) : STEP xs L 360 i f a g :=
  law_step (hop := (op_leaf.ops)) (ht := mt_61) (hr := rfl) hs (fun _ _ _ => b233_360 i q1 q2 q3 q4) (fun s0 _ _ _ => b233_384 i s0 q1 q2 q3 q4) (fun s0 s1 _ _ _ => b233_408 i s0 s1)
theorem cs_5 (hs : ST f a g) (q1 : ma_in (i + (1 : Int32)) L = true) (q2 : ma_in (i + (2 : Int32)) L = true) (q3 : ma_in (i + (3 : Int32)) L = true) (q4 : ma_in (i + (4 : Int32)) L = true) : STEP xs L 413 i f a g :=
  law_step (hop := (op_of.ops)) (ht := mt_62) (hr := rfl) hs (fun _ _ _ => b233_413 i q1 q2) (fun s0 _ _ _ => b233_427 i s0 q1 q2) (fun s0 s1 _ _ _ => b233_441 i s0 s1)
theorem cs_6 (hs : ST f a g) (q1 : ma_in (i + (1 : Int32)) L = true) (q2 : ma_in (i + (2 : Int32)) L = true) (q3 : ma_in (i + (3 : Int32)) L = true) (q4 : ma_in (i + (4 : Int32)) L = true) : STEP xs L 446 i f a g :=
  law_step (hop := (op_does.ops)) (ht := mt_63) (hr := rfl) hs (fun _ _ _ => b233_446 i q1 q2) (fun s0 _ _ _ => b233_460 i s0 q1 q2) (fun s0 s1 _ _ _ => b233_474 i s0 s1)
theorem cs_7 (hs : ST f a g) (q1 : ma_in (i + (1 : Int32)) L = true) (q2 : ma_in (i + (2 : Int32)) L = true) (q3 : ma_in (i + (3 : Int32)) L = true) (q4 : ma_in (i + (4 : Int32)) L = true) : STEP xs L 479 i f a g :=
  law_step (hop := (op_mind.ops)) (ht := mt_64) (hr := rfl) hs (fun _ _ _ => b233_479 i q1 q2 q3) (fun s0 _ _ _ => b233_498 i s0 q1 q2 q3) (fun s0 s1 _ _ _ => b233_517 i s0 s1)
theorem cs_8 (hs : ST f a g) (q1 : ma_in (i + (1 : Int32)) L = true) (q2 : ma_in (i + (2 : Int32)) L = true) (q3 : ma_in (i + (3 : Int32)) L = true) (q4 : ma_in (i + (4 : Int32)) L = true) : STEP xs L 522 i f a g :=
  law_step (hop := (op_hold.ops)) (ht := mt_65) (hr := rfl) hs (fun _ _ _ => b233_522 i q1 q2) (fun s0 _ _ _ => b233_536 i s0 q1 q2) (fun s0 s1 _ _ _ => b233_550 i s0 s1)
theorem cs_9 (hs : ST f a g) (q1 : ma_in (i + (1 : Int32)) L = true) (q2 : ma_in (i + (2 : Int32)) L = true) (q3 : ma_in (i + (3 : Int32)) L = true) (q4 : ma_in (i + (4 : Int32)) L = true) : STEP xs L 555 i f a g :=
  law_step (hop := (op_move.ops)) (ht := mt_66) (hr := rfl) hs (fun _ _ _ => b233_555 i q1 q2) (fun s0 _ _ _ => b233_569 i s0 q1 q2) (fun s0 s1 _ _ _ => b233_583 i s0 s1)
theorem cs_10 (hs : ST f a g) (q1 : ma_in (i + (1 : Int32)) L = true) (q2 : ma_in (i + (2 : Int32)) L = true) (q3 : ma_in (i + (3 : Int32)) L = true) (q4 : ma_in (i + (4 : Int32)) L = true) : STEP xs L 588 i f a g :=
  law_step (hop := (op_pluck.ops)) (ht := mt_67) (hr := rfl) hs (fun _ _ _ => b233_588 i q1) (fun s0 _ _ _ => b233_597 i s0 q1) (fun s0 s1 _ _ _ => b233_606 i s0 s1)
theorem cs_11 (hs : ST f a g) (q1 : ma_in (i + (1 : Int32)) L = true) (q2 : ma_in (i + (2 : Int32)) L = true) (q3 : ma_in (i + (3 : Int32)) L = true) (q4 : ma_in (i + (4 : Int32)) L = true) : STEP xs L 611 i f a g :=
  law_step (hop := (op_bough.ops)) (ht := mt_68) (hr := rfl) hs (fun _ _ _ => b233_611 i q1 q2) (fun s0 _ _ _ => b233_625 i s0 q1 q2) (fun s0 s1 _ _ _ => b233_639 i s0 s1)
theorem cs_12 (hs : ST f a g) (q1 : ma_in (i + (1 : Int32)) L = true) (q2 : ma_in (i + (2 : Int32)) L = true) (q3 : ma_in (i + (3 : Int32)) L = true) (q4 : ma_in (i + (4 : Int32)) L = true) : STEP xs L 644 i f a g :=
  law_step (hop := (op_sway.ops)) (ht := mt_69) (hr := rfl) hs (fun _ _ _ => b233_644 i q1 q2) (fun s0 _ _ _ => b233_658 i s0 q1 q2) (fun s0 s1 _ _ _ => b233_672 i s0 s1)
theorem cs_13 (hs : ST f a g) (q1 : ma_in (i + (1 : Int32)) L = true) (q2 : ma_in (i + (2 : Int32)) L = true) (q3 : ma_in (i + (3 : Int32)) L = true) (q4 : ma_in (i + (4 : Int32)) L = true) : STEP xs L 677 i f a g :=
  law_step (hop := (op_days.ops)) (ht := mt_70) (hr := rfl) hs (fun _ _ _ => b233_677 i q1) (fun s0 _ _ _ => b233_686 i s0 q1) (fun s0 s1 _ _ _ => b233_695 i s0 s1)
theorem cs_14 (hs : ST f a g) (q1 : ma_in (i + (1 : Int32)) L = true) (q2 : ma_in (i + (2 : Int32)) L = true) (q3 : ma_in (i + (3 : Int32)) L = true) (q4 : ma_in (i + (4 : Int32)) L = true) : STEP xs L 700 i f a g :=
  law_step (hop := (op_seed.ops)) (ht := mt_72) (hr := rfl) hs (fun _ _ _ => b233_700 i q1) (fun s0 _ _ _ => b233_709 i s0 q1) (fun s0 s1 _ _ _ => b233_718 i s0 s1)
theorem cs_15 (hs : ST f a g) (q1 : ma_in (i + (1 : Int32)) L = true) (q2 : ma_in (i + (2 : Int32)) L = true) (q3 : ma_in (i + (3 : Int32)) L = true) (q4 : ma_in (i + (4 : Int32)) L = true) : STEP xs L 723 i f a g :=
  law_step (hop := (op_day.ops)) (ht := mt_73) (hr := rfl) hs (fun _ _ _ => b233_723 i ) (fun s0 _ _ _ => b233_727 i s0 ) (fun s0 s1 _ _ _ => b233_731 i s0 s1)
theorem cs_16 (hs : ST f a g) (q1 : ma_in (i + (1 : Int32)) L = true) (q2 : ma_in (i + (2 : Int32)) L = true) (q3 : ma_in (i + (3 : Int32)) L = true) (q4 : ma_in (i + (4 : Int32)) L = true) : STEP xs L 736 i f a g :=
  law_step (hop := (op_lost.ops)) (ht := mt_74) (hr := rfl) hs (fun _ _ _ => b233_736 i q1) (fun s0 _ _ _ => b233_745 i s0 q1) (fun s0 s1 _ _ _ => b233_754 i s0 s1)
theorem cs_17 (hs : ST f a g) (q1 : ma_in (i + (1 : Int32)) L = true) (q2 : ma_in (i + (2 : Int32)) L = true) (q3 : ma_in (i + (3 : Int32)) L = true) (q4 : ma_in (i + (4 : Int32)) L = true) : STEP xs L 759 i f a g :=
  law_step (hop := (op_written.ops)) (ht := mt_75) (hr := rfl) hs (fun _ _ _ => b233_759 i q1) (fun s0 _ _ _ => b233_768 i s0 q1) (fun s0 s1 _ _ _ => b233_777 i s0 s1)
theorem cs_18 (hs : ST f a g) (q1 : ma_in (i + (1 : Int32)) L = true) (q2 : ma_in (i + (2 : Int32)) L = true) (q3 : ma_in (i + (3 : Int32)) L = true) (q4 : ma_in (i + (4 : Int32)) L = true) : STEP xs L 782 i f a g :=
  law_step (hop := (op_state.ops)) (ht := mt_76) (hr := rfl) hs (fun _ _ _ => b233_782 i q1) (fun s0 _ _ _ => b233_791 i s0 q1) (fun s0 s1 _ _ _ => b233_800 i s0 s1)
theorem cs_19 (hs : ST f a g) (q1 : ma_in (i + (1 : Int32)) L = true) (q2 : ma_in (i + (2 : Int32)) L = true) (q3 : ma_in (i + (3 : Int32)) L = true) (q4 : ma_in (i + (4 : Int32)) L = true) : STEP xs L 805 i f a g :=
  law_step (hop := (op_falls.ops)) (ht := mt_77) (hr := rfl) hs (fun _ _ _ => b233_805 i q1) (fun s0 _ _ _ => b233_814 i s0 q1) (fun s0 s1 _ _ _ => b233_823 i s0 s1)
theorem cs_20 (hs : ST f a g) (q1 : ma_in (i + (1 : Int32)) L = true) (q2 : ma_in (i + (2 : Int32)) L = true) (q3 : ma_in (i + (3 : Int32)) L = true) (q4 : ma_in (i + (4 : Int32)) L = true) : STEP xs L 828 i f a g :=
  law_step (hop := (op_bare.ops)) (ht := mt_79) (hr := rfl) hs (fun _ _ _ => b233_828 i ) (fun s0 _ _ _ => b233_832 i s0 ) (fun s0 s1 _ _ _ => b233_836 i s0 s1)
theorem cs_21 (hs : ST f a g) (q1 : ma_in (i + (1 : Int32)) L = true) (q2 : ma_in (i + (2 : Int32)) L = true) (q3 : ma_in (i + (3 : Int32)) L = true) (q4 : ma_in (i + (4 : Int32)) L = true) : STEP xs L 841 i f a g :=
  law_step (hop := (op_next.ops)) (ht := mt_80) (hr := rfl) hs (fun _ _ _ => b233_841 i ) (fun s0 _ _ _ => b233_845 i s0 ) (fun s0 s1 _ _ _ => b233_849 i s0 s1)
theorem cs_22 (hs : ST f a g) (q1 : ma_in (i + (1 : Int32)) L = true) (q2 : ma_in (i + (2 : Int32)) L = true) (q3 : ma_in (i + (3 : Int32)) L = true) (q4 : ma_in (i + (4 : Int32)) L = true) : STEP xs L 854 i f a g :=
  law_step (hop := (op_latest.ops)) (ht := mt_81) (hr := rfl) hs (fun _ _ _ => b233_854 i ) (fun s0 _ _ _ => b233_858 i s0 ) (fun s0 s1 _ _ _ => b233_862 i s0 s1)
theorem cs_23 (hs : ST f a g) (q1 : ma_in (i + (1 : Int32)) L = true) (q2 : ma_in (i + (2 : Int32)) L = true) (q3 : ma_in (i + (3 : Int32)) L = true) (q4 : ma_in (i + (4 : Int32)) L = true) : STEP xs L 867 i f a g :=
  law_step (hop := (op_boughFor.ops)) (ht := mt_82) (hr := rfl) hs (fun _ _ _ => b233_867 i q1) (fun s0 _ _ _ => b233_876 i s0 q1) (fun s0 s1 _ _ _ => b233_885 i s0 s1)
theorem cs_24 (hs : ST f a g) (q1 : ma_in (i + (1 : Int32)) L = true) (q2 : ma_in (i + (2 : Int32)) L = true) (q3 : ma_in (i + (3 : Int32)) L = true) (q4 : ma_in (i + (4 : Int32)) L = true) : STEP xs L 890 i f a g :=
  law_step (hop := (op_kindFor.ops)) (ht := mt_83) (hr := rfl) hs (fun _ _ _ => b233_890 i q1) (fun s0 _ _ _ => b233_899 i s0 q1) (fun s0 s1 _ _ _ => b233_908 i s0 s1)
theorem cs_25 (hs : ST f a g) (q1 : ma_in (i + (1 : Int32)) L = true) (q2 : ma_in (i + (2 : Int32)) L = true) (q3 : ma_in (i + (3 : Int32)) L = true) (q4 : ma_in (i + (4 : Int32)) L = true) : STEP xs L 913 i f a g :=
  law_step (hop := (op_holdFor.ops)) (ht := mt_84) (hr := rfl) hs (fun _ _ _ => b233_913 i q1 q2) (fun s0 _ _ _ => b233_927 i s0 q1 q2) (fun s0 s1 _ _ _ => b233_941 i s0 s1)
theorem cs_26 (hs : ST f a g) (q1 : ma_in (i + (1 : Int32)) L = true) (q2 : ma_in (i + (2 : Int32)) L = true) (q3 : ma_in (i + (3 : Int32)) L = true) (q4 : ma_in (i + (4 : Int32)) L = true) : STEP xs L 946 i f a g :=
  law_step (hop := (op_tiedFor.ops)) (ht := mt_86) (hr := rfl) hs (fun _ _ _ => b233_946 i q1 q2) (fun s0 _ _ _ => b233_960 i s0 q1 q2) (fun s0 s1 _ _ _ => b233_974 i s0 s1)
theorem cs_27 (hs : ST f a g) (q1 : ma_in (i + (1 : Int32)) L = true) (q2 : ma_in (i + (2 : Int32)) L = true) (q3 : ma_in (i + (3 : Int32)) L = true) (q4 : ma_in (i + (4 : Int32)) L = true) : STEP xs L 979 i f a g :=
  law_step (hop := op_fits) (ht := mt_87) (hr := rfl) hs (fun _ _ _ => b233_979 i q1 q2 q3) (fun s0 _ _ _ => b233_998 i s0 q1 q2 q3) (fun s0 s1 _ _ _ => b233_1017 i s0 s1)
theorem cs_28 (hs : ST f a g) (q1 : ma_in (i + (1 : Int32)) L = true) (q2 : ma_in (i + (2 : Int32)) L = true) (q3 : ma_in (i + (3 : Int32)) L = true) (q4 : ma_in (i + (4 : Int32)) L = true) : STEP xs L 1022 i f a g :=
  law_stepL (hop := (op_odds.ops)) (ht := mt_89) (hr := rfl) hs (fun _ _ _ => b233_1022 i q1 q2 q3) (fun s0 _ _ _ => b233_1041 i s0 q1 q2 q3) (fun s0 s1 _ _ _ => b233_1060 i s0 s1)
theorem cs_29 (hs : ST f a g) (q1 : ma_in (i + (1 : Int32)) L = true) (q2 : ma_in (i + (2 : Int32)) L = true) (q3 : ma_in (i + (3 : Int32)) L = true) (q4 : ma_in (i + (4 : Int32)) L = true) : STEP xs L 1066 i f a g :=
  law_stepL (hop := (op_hope.ops)) (ht := mt_92) (hr := rfl) hs (fun _ _ _ => b233_1066 i q1 q2) (fun s0 _ _ _ => b233_1080 i s0 q1 q2) (fun s0 s1 _ _ _ => b233_1094 i s0 s1)
theorem cs_30 (hs : ST f a g) (q1 : ma_in (i + (1 : Int32)) L = true) (q2 : ma_in (i + (2 : Int32)) L = true) (q3 : ma_in (i + (3 : Int32)) L = true) (q4 : ma_in (i + (4 : Int32)) L = true) : STEP xs L 1100 i f a g :=
  law_step (hop := op_prove) (ht := mt_93) (hr := rfl) hs (fun _ _ _ => b233_1100 i q1 q2) (fun s0 _ _ _ => b233_1114 i s0 q1 q2) (fun s0 s1 _ _ _ => b233_1128 i s0 s1)
theorem cs_31 (hs : ST f a g) (q1 : ma_in (i + (1 : Int32)) L = true) (q2 : ma_in (i + (2 : Int32)) L = true) (q3 : ma_in (i + (3 : Int32)) L = true) (q4 : ma_in (i + (4 : Int32)) L = true) : STEP xs L 1133 i f a g :=
  law_step (hop := op_row) (ht := mt_95) (hr := rfl) hs (fun _ _ _ => b233_1133 i q1 q2) (fun s0 _ _ _ => b233_1147 i s0 q1 q2) (fun s0 s1 _ _ _ => b233_1161 i s0 s1)
theorem cs_32 (hs : ST f a g) (q1 : ma_in (i + (1 : Int32)) L = true) (q2 : ma_in (i + (2 : Int32)) L = true) (q3 : ma_in (i + (3 : Int32)) L = true) (q4 : ma_in (i + (4 : Int32)) L = true) : STEP xs L 1166 i f a g :=
  law_step (hop := op_alterRow) (ht := mt_97) (hr := rfl) hs (fun _ _ _ => b233_1166 i q1 q2 q3) (fun s0 _ _ _ => b233_1185 i s0 q1 q2 q3) (fun s0 s1 _ _ _ => b233_1204 i s0 s1)
theorem cs_33 (hs : ST f a g) (q1 : ma_in (i + (1 : Int32)) L = true) (q2 : ma_in (i + (2 : Int32)) L = true) (q3 : ma_in (i + (3 : Int32)) L = true) (q4 : ma_in (i + (4 : Int32)) L = true) : STEP xs L 1209 i f a g :=
  law_step (hop := op_judge) (ht := mt_98) (hr := rfl) hs (fun _ _ _ => b233_1209 i q1) (fun s0 _ _ _ => b233_1218 i s0 q1) (fun s0 s1 _ _ _ => b233_1227 i s0 s1)
theorem cs_34 (hs : ST f a g) (q1 : ma_in (i + (1 : Int32)) L = true) (q2 : ma_in (i + (2 : Int32)) L = true) (q3 : ma_in (i + (3 : Int32)) L = true) (q4 : ma_in (i + (4 : Int32)) L = true) : STEP xs L 1232 i f a g :=
  law_step (hop := op_minds) (ht := mt_99) (hr := rfl) hs (fun _ _ _ => b233_1232 i q1 q2 q3 q4) (fun s0 _ _ _ => b233_1256 i s0 q1 q2 q3 q4) (fun s0 s1 _ _ _ => b233_1280 i s0 s1)
theorem cs_35 (hs : ST f a g) (q1 : ma_in (i + (1 : Int32)) L = true) (q2 : ma_in (i + (2 : Int32)) L = true) (q3 : ma_in (i + (3 : Int32)) L = true) (q4 : ma_in (i + (4 : Int32)) L = true) : STEP xs L 1285 i f a g :=
  law_step (hop := op_sheet) (ht := mt_100) (hr := rfl) hs (fun _ _ _ => b233_1285 i q1 q2 q3) (fun s0 _ _ _ => b233_1304 i s0 q1 q2 q3) (fun s0 s1 _ _ _ => b233_1323 i s0 s1)
theorem cs_36 (hs : ST f a g) (q1 : ma_in (i + (1 : Int32)) L = true) (q2 : ma_in (i + (2 : Int32)) L = true) (q3 : ma_in (i + (3 : Int32)) L = true) (q4 : ma_in (i + (4 : Int32)) L = true) : STEP xs L 1328 i f a g :=
  law_step (hop := op_put) (ht := mt_101) (hr := rfl) hs (fun _ _ _ => b233_1328 i q1 q2 q3) (fun s0 _ _ _ => b233_1347 i s0 q1 q2 q3) (fun s0 s1 _ _ _ => b233_1366 i s0 s1)
theorem cs_37 (hs : ST f a g) (q1 : ma_in (i + (1 : Int32)) L = true) (q2 : ma_in (i + (2 : Int32)) L = true) (q3 : ma_in (i + (3 : Int32)) L = true) (q4 : ma_in (i + (4 : Int32)) L = true) : STEP xs L 1371 i f a g :=
  law_step (hop := op_item) (ht := mt_102) (hr := rfl) hs (fun _ _ _ => b233_1371 i q1 q2 q3) (fun s0 _ _ _ => b233_1390 i s0 q1 q2 q3) (fun s0 s1 _ _ _ => b233_1409 i s0 s1)
theorem cs_38 (hs : ST f a g) (q1 : ma_in (i + (1 : Int32)) L = true) (q2 : ma_in (i + (2 : Int32)) L = true) (q3 : ma_in (i + (3 : Int32)) L = true) (q4 : ma_in (i + (4 : Int32)) L = true) : STEP xs L 1414 i f a g :=
  law_step (hop := op_shelf) (ht := mt_103) (hr := rfl) hs (fun _ _ _ => b233_1414 i q1 q2 q3) (fun s0 _ _ _ => b233_1433 i s0 q1 q2 q3) (fun s0 s1 _ _ _ => b233_1452 i s0 s1)
theorem cs_39 (hs : ST f a g) (q1 : ma_in (i + (1 : Int32)) L = true) (q2 : ma_in (i + (2 : Int32)) L = true) (q3 : ma_in (i + (3 : Int32)) L = true) (q4 : ma_in (i + (4 : Int32)) L = true) : STEP xs L 1457 i f a g :=
  law_step (hop := op_taken) (ht := mt_104) (hr := rfl) hs (fun _ _ _ => b233_1457 i q1 q2) (fun s0 _ _ _ => b233_1471 i s0 q1 q2) (fun s0 s1 _ _ _ => b233_1485 i s0 s1)
theorem cs_40 (hs : ST f a g) (q1 : ma_in (i + (1 : Int32)) L = true) (q2 : ma_in (i + (2 : Int32)) L = true) (q3 : ma_in (i + (3 : Int32)) L = true) (q4 : ma_in (i + (4 : Int32)) L = true) : STEP xs L 1490 i f a g :=
  law_step (hop := op_act) (ht := mt_107) (hr := rfl) hs (fun _ _ _ => b233_1490 i q1 q2 q3) (fun s0 _ _ _ => b233_1509 i s0 q1 q2 q3) (fun s0 s1 _ _ _ => b233_1528 i s0 s1)
theorem cs_41 (hs : ST f a g) (q1 : ma_in (i + (1 : Int32)) L = true) (q2 : ma_in (i + (2 : Int32)) L = true) (q3 : ma_in (i + (3 : Int32)) L = true) (q4 : ma_in (i + (4 : Int32)) L = true) : STEP xs L 1533 i f a g :=
  law_step (hop := op_trace) (ht := mt_108) (hr := rfl) hs (fun _ _ _ => b233_1533 i q1) (fun s0 _ _ _ => b233_1542 i s0 q1) (fun s0 s1 _ _ _ => b233_1551 i s0 s1)
theorem cs_42 (hs : ST f a g) (q1 : ma_in (i + (1 : Int32)) L = true) (q2 : ma_in (i + (2 : Int32)) L = true) (q3 : ma_in (i + (3 : Int32)) L = true) (q4 : ma_in (i + (4 : Int32)) L = true) : STEP xs L 1556 i f a g :=
  law_step (hop := op_many) (ht := mt_109) (hr := rfl) hs (fun _ _ _ => b233_1556 i q1) (fun s0 _ _ _ => b233_1565 i s0 q1) (fun s0 s1 _ _ _ => b233_1574 i s0 s1)
theorem cs_43 (hs : ST f a g) (q1 : ma_in (i + (1 : Int32)) L = true) (q2 : ma_in (i + (2 : Int32)) L = true) (q3 : ma_in (i + (3 : Int32)) L = true) (q4 : ma_in (i + (4 : Int32)) L = true) : STEP xs L 1579 i f a g :=
  law_step (hop := op_keep) (ht := mt_110) (hr := rfl) hs (fun _ _ _ => b233_1579 i ) (fun s0 _ _ _ => b233_1583 i s0 ) (fun s0 s1 _ _ _ => b233_1587 i s0 s1)
theorem cs_44 (hs : ST f a g) (q1 : ma_in (i + (1 : Int32)) L = true) (q2 : ma_in (i + (2 : Int32)) L = true) (q3 : ma_in (i + (3 : Int32)) L = true) (q4 : ma_in (i + (4 : Int32)) L = true) : STEP xs L 1592 i f a g :=
  law_step (hop := op_again) (ht := mt_111) (hr := rfl) hs (fun _ _ _ => b233_1592 i ) (fun s0 _ _ _ => b233_1596 i s0 ) (fun s0 s1 _ _ _ => b233_1600 i s0 s1)
theorem law_op (hs : ST f a g) (q0 : ma_in i L = true) (q1 : ma_in (i + (1 : Int32)) L = true) (q2 : ma_in (i + (2 : Int32)) L = true) (q3 : ma_in (i + (3 : Int32)) L = true) (q4 : ma_in (i + (4 : Int32)) L = true) : STEP xs L 26 i f a g := by
  have k : ∀ {p : Nat}, rn xs L 233 26 [vS 1, vR 0, vR 44, vI i] [] (mw f a g) = rn xs L 233 p [vS 1, vR 0, vR 44, vI i] [] (mw f a g) → STEP xs L p i f a g → STEP xs L 26 i f a g := fun e h => by
    obtain ⟨f1, a1, g1, h1, h2⟩ := h
    exact ⟨f1, a1, g1, e.trans h1, h2⟩
  have e := b233_26 (xs := xs) (L := L) (f := f) (a := a) (g := g) i q0
  generalize xs i.toNatClampNeg &&& (63 : Int32) = x at e
  by_cases c0 : x = 0
  · rw [if_pos c0] at e; exact k e (cs_0 hs q1 q2 q3 q4)
  rw [if_neg c0] at e
  by_cases c1 : x = 1
  · rw [if_pos c1] at e; exact k e (cs_1 hs q1 q2 q3 q4)
  rw [if_neg c1] at e
  by_cases c2 : x = 2
  · rw [if_pos c2] at e; exact k e (cs_2 hs q1 q2 q3 q4)
  rw [if_neg c2] at e
  by_cases c3 : x = 3
  · rw [if_pos c3] at e; exact k e (cs_3 hs q1 q2 q3 q4)
  rw [if_neg c3] at e
  by_cases c4 : x = 4
  · rw [if_pos c4] at e; exact k e (cs_4 hs q1 q2 q3 q4)
  rw [if_neg c4] at e
  by_cases c5 : x = 5
  · rw [if_pos c5] at e; exact k e (cs_5 hs q1 q2 q3 q4)
  rw [if_neg c5] at e
  by_cases c6 : x = 6
  · rw [if_pos c6] at e; exact k e (cs_6 hs q1 q2 q3 q4)
  rw [if_neg c6] at e
  by_cases c7 : x = 7
  · rw [if_pos c7] at e; exact k e (cs_7 hs q1 q2 q3 q4)
  rw [if_neg c7] at e
  by_cases c8 : x = 8
  · rw [if_pos c8] at e; exact k e (cs_8 hs q1 q2 q3 q4)
  rw [if_neg c8] at e
  by_cases c9 : x = 9
  · rw [if_pos c9] at e; exact k e (cs_9 hs q1 q2 q3 q4)
  rw [if_neg c9] at e
  by_cases c10 : x = 10
  · rw [if_pos c10] at e; exact k e (cs_10 hs q1 q2 q3 q4)
  rw [if_neg c10] at e
  by_cases c11 : x = 11
  · rw [if_pos c11] at e; exact k e (cs_11 hs q1 q2 q3 q4)
  rw [if_neg c11] at e
  by_cases c12 : x = 12
  · rw [if_pos c12] at e; exact k e (cs_12 hs q1 q2 q3 q4)
  rw [if_neg c12] at e
  by_cases c13 : x = 13
  · rw [if_pos c13] at e; exact k e (cs_13 hs q1 q2 q3 q4)
  rw [if_neg c13] at e
  by_cases c14 : x = 14
  · rw [if_pos c14] at e; exact k e (cs_14 hs q1 q2 q3 q4)
  rw [if_neg c14] at e
  by_cases c15 : x = 15
  · rw [if_pos c15] at e; exact k e (cs_15 hs q1 q2 q3 q4)
  rw [if_neg c15] at e
  by_cases c16 : x = 16
  · rw [if_pos c16] at e; exact k e (cs_16 hs q1 q2 q3 q4)
  rw [if_neg c16] at e
  by_cases c17 : x = 17
  · rw [if_pos c17] at e; exact k e (cs_17 hs q1 q2 q3 q4)
  rw [if_neg c17] at e
  by_cases c18 : x = 18
  · rw [if_pos c18] at e; exact k e (cs_18 hs q1 q2 q3 q4)
  rw [if_neg c18] at e
  by_cases c19 : x = 19
  · rw [if_pos c19] at e; exact k e (cs_19 hs q1 q2 q3 q4)
  rw [if_neg c19] at e
  by_cases c20 : x = 20
  · rw [if_pos c20] at e; exact k e (cs_20 hs q1 q2 q3 q4)
  rw [if_neg c20] at e
  by_cases c21 : x = 21
  · rw [if_pos c21] at e; exact k e (cs_21 hs q1 q2 q3 q4)
  rw [if_neg c21] at e
  by_cases c22 : x = 22
  · rw [if_pos c22] at e; exact k e (cs_22 hs q1 q2 q3 q4)
  rw [if_neg c22] at e
  by_cases c23 : x = 23
  · rw [if_pos c23] at e; exact k e (cs_23 hs q1 q2 q3 q4)
  rw [if_neg c23] at e
  by_cases c24 : x = 24
  · rw [if_pos c24] at e; exact k e (cs_24 hs q1 q2 q3 q4)
  rw [if_neg c24] at e
  by_cases c25 : x = 25
  · rw [if_pos c25] at e; exact k e (cs_25 hs q1 q2 q3 q4)
  rw [if_neg c25] at e
  by_cases c26 : x = 26
  · rw [if_pos c26] at e; exact k e (cs_26 hs q1 q2 q3 q4)
  rw [if_neg c26] at e
  by_cases c27 : x = 27
  · rw [if_pos c27] at e; exact k e (cs_27 hs q1 q2 q3 q4)
  rw [if_neg c27] at e
  by_cases c28 : x = 28
  · rw [if_pos c28] at e; exact k e (cs_28 hs q1 q2 q3 q4)
  rw [if_neg c28] at e
  by_cases c29 : x = 29
  · rw [if_pos c29] at e; exact k e (cs_29 hs q1 q2 q3 q4)
  rw [if_neg c29] at e
  by_cases c30 : x = 30
  · rw [if_pos c30] at e; exact k e (cs_30 hs q1 q2 q3 q4)
  rw [if_neg c30] at e
  by_cases c31 : x = 31
  · rw [if_pos c31] at e; exact k e (cs_31 hs q1 q2 q3 q4)
  rw [if_neg c31] at e
  by_cases c32 : x = 32
  · rw [if_pos c32] at e; exact k e (cs_32 hs q1 q2 q3 q4)
  rw [if_neg c32] at e
  by_cases c33 : x = 33
  · rw [if_pos c33] at e; exact k e (cs_33 hs q1 q2 q3 q4)
  rw [if_neg c33] at e
  by_cases c34 : x = 34
  · rw [if_pos c34] at e; exact k e (cs_34 hs q1 q2 q3 q4)
  rw [if_neg c34] at e
  by_cases c35 : x = 35
  · rw [if_pos c35] at e; exact k e (cs_35 hs q1 q2 q3 q4)
  rw [if_neg c35] at e
  by_cases c36 : x = 36
  · rw [if_pos c36] at e; exact k e (cs_36 hs q1 q2 q3 q4)
  rw [if_neg c36] at e
  by_cases c37 : x = 37
  · rw [if_pos c37] at e; exact k e (cs_37 hs q1 q2 q3 q4)
  rw [if_neg c37] at e
  by_cases c38 : x = 38
  · rw [if_pos c38] at e; exact k e (cs_38 hs q1 q2 q3 q4)
  rw [if_neg c38] at e
  by_cases c39 : x = 39
  · rw [if_pos c39] at e; exact k e (cs_39 hs q1 q2 q3 q4)
  rw [if_neg c39] at e
  by_cases c40 : x = 40
  · rw [if_pos c40] at e; exact k e (cs_40 hs q1 q2 q3 q4)
  rw [if_neg c40] at e
  by_cases c41 : x = 41
  · rw [if_pos c41] at e; exact k e (cs_41 hs q1 q2 q3 q4)
  rw [if_neg c41] at e
  by_cases c42 : x = 42
  · rw [if_pos c42] at e; exact k e (cs_42 hs q1 q2 q3 q4)
  rw [if_neg c42] at e
  by_cases c43 : x = 43
  · rw [if_pos c43] at e; exact k e (cs_43 hs q1 q2 q3 q4)
  rw [if_neg c43] at e
  by_cases c44 : x = 44
  · rw [if_pos c44] at e; exact k e (cs_44 hs q1 q2 q3 q4)
  rw [if_neg c44] at e
  exact ⟨f, a, g, e.trans (b233_1605 i), hs⟩
theorem lt_sub5 {L i : Nat} (hL : L ≤ 2560) (hi : i ≤ 4000) : (nI L - 5 < nI i) ↔ L < i + 5 := by
  by_cases h : 5 ≤ L
  · have e : nI L - 5 = nI (L - 5) := by
      rw [show (5 : Int32) = nI 5 from rfl]
      exact pk_sub h
    rw [e, nn_lt (by omega) (by omega)]
    omega
  · have h1 : ∀ L, L < 5 → nI L - 5 < 0 := by decide
    have h2 := h1 L (by omega)
    have h3 : ¬ nI i < 0 := nI_pos (by omega)
    refine ⟨fun _ => by omega, fun _ => ?_⟩
    rw [Int32.lt_iff_toInt_lt] at h2 h3 ⊢
    omega
theorem law_loop (hL : L ≤ 2560) : ∀ (r j : Nat) (f a : Nat → Nat → Int32) (g : Nat → Nat → Int64), L < j + r → j ≤ L + 5 → ST f a g → ∃ (f' a' : Nat → Nat → Int32) (g' : Nat → Nat → Int64), rn xs L 233 18 [vS 1, vR 0, vR 44, vI (nI j)] [] (mw f a g) = some (some (vI 1), mw f' a' g')
  | 0, j, f, a, g, h, hj, hs => by
    refine ⟨f, a, g, ?_⟩
    have e : Int32.ofNat L = nI L := rfl
    rw [b233_18, e, if_pos ((lt_sub5 hL (by omega)).mpr (by omega)), b233_1611]
  | r + 1, j, f, a, g, h, hj, hs => by
    have e : Int32.ofNat L = nI L := rfl
    by_cases c : L < j + 5
    · refine ⟨f, a, g, ?_⟩
      rw [b233_18, e, if_pos ((lt_sub5 hL (by omega)).mpr c), b233_1611]
    · have q : ∀ k, k < 5 → ma_in (nI (j + k)) L = true := fun k hk => by
        rw [nn_in (by omega)]
        simp only [decide_eq_true_eq]
        omega
      have z : ∀ k, nI j + nI k = nI (j + k) := fun k => nn_add
      obtain ⟨f1, a1, g1, h1, hs1⟩ := law_op (xs := xs) (L := L) (i := nI j) hs (q 0 (by omega)) (by rw [show (1 : Int32) = nI 1 from rfl, z]; exact q 1 (by omega)) (by rw [show (2 : Int32) = nI 2 from rfl, z]; exact q 2 (by omega)) (by rw [show (3 : Int32) = nI 3 from rfl, z]; exact q 3 (by omega)) (by rw [show (4 : Int32) = nI 4 from rfl, z]; exact q 4 (by omega))
      obtain ⟨f2, a2, g2, h2⟩ := law_loop hL r (j + 5) f1 a1 g1 (by omega) (by omega) hs1
      refine ⟨f2, a2, g2, ?_⟩
      rw [b233_18, e, if_neg (fun w => c ((lt_sub5 hL (by omega)).mp w)), h1, show (5 : Int32) = nI 5 from rfl, z]
      exact h2
end S98D
