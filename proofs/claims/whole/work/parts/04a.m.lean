theorem fl13_X9_spell : Cond.fieldLink RX9 13 RX9 (TX9 1).2.1 (TX9 1).2.2.1 ∈ wsX9_spell := by decide +kernel
theorem hi_X9_spell_X9 : ∀ w ∈ u_ws RX9 TX9 45, w ∈ wsX9_spell := by decide +kernel
theorem lc83_X9_spell : Jvm.Cond.constantLong RX9 83 255 ∈ wsX9_spell := by decide +kernel
theorem fl23_X9_plainly : Cond.fieldLink RX9 23 RX9 (TX9 7).2.1 (TX9 7).2.2.1 ∈ wsX9_plainly := by decide +kernel
theorem hi_X9_plainly_X9 : ∀ w ∈ u_ws RX9 TX9 45, w ∈ wsX9_plainly := by decide +kernel
theorem fl74_X9_isBox : Cond.fieldLink RX9 74 RX9 (TX9 8).2.1 (TX9 8).2.2.1 ∈ wsX9_isBox := by decide +kernel
theorem hi_X9_isBox_X9 : ∀ w ∈ u_ws RX9 TX9 45, w ∈ wsX9_isBox := by decide +kernel
theorem lc89_X9_boxes : Jvm.Cond.constantLong RX9 89 12 ∈ wsX9_boxes := by decide +kernel
theorem fl74_X9_boxes : Cond.fieldLink RX9 74 RX9 (TX9 8).2.1 (TX9 8).2.2.1 ∈ wsX9_boxes := by decide +kernel
theorem hi_X9_boxes_X9 : ∀ w ∈ u_ws RX9 TX9 45, w ∈ wsX9_boxes := by decide +kernel
theorem lc89_X9_looks : Jvm.Cond.constantLong RX9 89 12 ∈ wsX9_looks := by decide +kernel
theorem fl77_X9_looks : Cond.fieldLink RX9 77 RX9 (TX9 9).2.1 (TX9 9).2.2.1 ∈ wsX9_looks := by decide +kernel
theorem hi_X9_looks_X9 : ∀ w ∈ u_ws RX9 TX9 45, w ∈ wsX9_looks := by decide +kernel
theorem lc353_X9_isSheet : Jvm.Cond.constantLong RX9 353 3 ∈ wsX9_isSheet := by decide +kernel
theorem fl42_X9_lay : Cond.fieldLink RX9 42 RX9 (TX9 41).2.1 (TX9 41).2.2.1 ∈ wsX9_lay := by decide +kernel
theorem hi_X9_lay_X9 : ∀ w ∈ u_ws RX9 TX9 45, w ∈ wsX9_lay := by decide +kernel
theorem fl49_X9_lay : Cond.fieldLink RX9 49 RX9 (TX9 43).2.1 (TX9 43).2.2.1 ∈ wsX9_lay := by decide +kernel
theorem fl74_X9_lay : Cond.fieldLink RX9 74 RX9 (TX9 8).2.1 (TX9 8).2.2.1 ∈ wsX9_lay := by decide +kernel
theorem fl52_X9_lay : Cond.fieldLink RX9 52 RX9 (TX9 44).2.1 (TX9 44).2.2.1 ∈ wsX9_lay := by decide +kernel
theorem lc95_X9_lay : Jvm.Cond.constantLong RX9 95 (-1) ∈ wsX9_lay := by decide +kernel
theorem fl23_X9_lay : Cond.fieldLink RX9 23 RX9 (TX9 7).2.1 (TX9 7).2.2.1 ∈ wsX9_lay := by decide +kernel
theorem fl23_X9_changes : Cond.fieldLink RX9 23 RX9 (TX9 7).2.1 (TX9 7).2.2.1 ∈ wsX9_changes := by decide +kernel
theorem hi_X9_changes_X9 : ∀ w ∈ u_ws RX9 TX9 45, w ∈ wsX9_changes := by decide +kernel
theorem fl23_X9_empty : Cond.fieldLink RX9 23 RX9 (TX9 7).2.1 (TX9 7).2.2.1 ∈ wsX9_empty := by decide +kernel
theorem hi_X9_empty_X9 : ∀ w ∈ u_ws RX9 TX9 45, w ∈ wsX9_empty := by decide +kernel
theorem fl23_X9_ringOf : Cond.fieldLink RX9 23 RX9 (TX9 7).2.1 (TX9 7).2.2.1 ∈ wsX9_ringOf := by decide +kernel
theorem hi_X9_ringOf_X9 : ∀ w ∈ u_ws RX9 TX9 45, w ∈ wsX9_ringOf := by decide +kernel
theorem fl74_X9_ringOf : Cond.fieldLink RX9 74 RX9 (TX9 8).2.1 (TX9 8).2.2.1 ∈ wsX9_ringOf := by decide +kernel
theorem fl23_X9_box : Cond.fieldLink RX9 23 RX9 (TX9 7).2.1 (TX9 7).2.2.1 ∈ wsX9_box := by decide +kernel
theorem hi_X9_box_X9 : ∀ w ∈ u_ws RX9 TX9 45, w ∈ wsX9_box := by decide +kernel
theorem fl108_X9_lays : Cond.fieldLink RX9 108 RX9 (TX9 11).2.1 (TX9 11).2.2.1 ∈ wsX9_lays := by decide +kernel
theorem hi_X9_lays_X9 : ∀ w ∈ u_ws RX9 TX9 45, w ∈ wsX9_lays := by decide +kernel
theorem fl111_X9_lays : Cond.fieldLink RX9 111 RX9 (TX9 12).2.1 (TX9 12).2.2.1 ∈ wsX9_lays := by decide +kernel
theorem fl114_X9_lays : Cond.fieldLink RX9 114 RX9 (TX9 10).2.1 (TX9 10).2.2.1 ∈ wsX9_lays := by decide +kernel
theorem fl74_X9_lays : Cond.fieldLink RX9 74 RX9 (TX9 8).2.1 (TX9 8).2.2.1 ∈ wsX9_lays := by decide +kernel
theorem fl23_X9_lays : Cond.fieldLink RX9 23 RX9 (TX9 7).2.1 (TX9 7).2.2.1 ∈ wsX9_lays := by decide +kernel
theorem lc117_X9_rings : Jvm.Cond.constantLong RX9 117 2 ∈ wsX9_rings := by decide +kernel
theorem fl111_X9_rings : Cond.fieldLink RX9 111 RX9 (TX9 12).2.1 (TX9 12).2.2.1 ∈ wsX9_rings := by decide +kernel
theorem hi_X9_rings_X9 : ∀ w ∈ u_ws RX9 TX9 45, w ∈ wsX9_rings := by decide +kernel
theorem fl108_X9_rings : Cond.fieldLink RX9 108 RX9 (TX9 11).2.1 (TX9 11).2.2.1 ∈ wsX9_rings := by decide +kernel
theorem fl114_X9_rings : Cond.fieldLink RX9 114 RX9 (TX9 10).2.1 (TX9 10).2.2.1 ∈ wsX9_rings := by decide +kernel
theorem lc122_X9_feed : Jvm.Cond.constantLong RX9 122 8 ∈ wsX9_feed := by decide +kernel
theorem fl124_X9_feed : Cond.fieldLink RX9 124 RX9 (TX9 6).2.1 (TX9 6).2.2.1 ∈ wsX9_feed := by decide +kernel
theorem hi_X9_feed_X9 : ∀ w ∈ u_ws RX9 TX9 45, w ∈ wsX9_feed := by decide +kernel
theorem fl20_X9_feed : Cond.fieldLink RX9 20 RX9 (TX9 5).2.1 (TX9 5).2.2.1 ∈ wsX9_feed := by decide +kernel
theorem lc83_X9_feed : Jvm.Cond.constantLong RX9 83 255 ∈ wsX9_feed := by decide +kernel
theorem fl127_X9_byteAt : Cond.fieldLink RX9 127 RX9 (TX9 14).2.1 (TX9 14).2.2.1 ∈ wsX9_byteAt := by decide +kernel
theorem hi_X9_byteAt_X9 : ∀ w ∈ u_ws RX9 TX9 45, w ∈ wsX9_byteAt := by decide +kernel
theorem fl13_X9_byteAt : Cond.fieldLink RX9 13 RX9 (TX9 1).2.1 (TX9 1).2.2.1 ∈ wsX9_byteAt := by decide +kernel
theorem fl130_X9_byteAt : Cond.fieldLink RX9 130 RX9 (TX9 13).2.1 (TX9 13).2.2.1 ∈ wsX9_byteAt := by decide +kernel
theorem fl133_X9_next1 : Cond.fieldLink RX9 133 RX9 (TX9 18).2.1 (TX9 18).2.2.1 ∈ wsX9_next1 := by decide +kernel
theorem hi_X9_next1_X9 : ∀ w ∈ u_ws RX9 TX9 45, w ∈ wsX9_next1 := by decide +kernel
theorem fl139_X9_next1 : Cond.fieldLink RX9 139 RX9 (TX9 16).2.1 (TX9 16).2.2.1 ∈ wsX9_next1 := by decide +kernel
theorem fl142_X9_next1 : Cond.fieldLink RX9 142 RX9 (TX9 15).2.1 (TX9 15).2.2.1 ∈ wsX9_next1 := by decide +kernel
theorem lc145_X9_next1 : Jvm.Cond.constantLong RX9 145 97 ∈ wsX9_next1 := by decide +kernel
theorem lc147_X9_next1 : Jvm.Cond.constantLong RX9 147 122 ∈ wsX9_next1 := by decide +kernel
theorem lc157_X9_next1 : Jvm.Cond.constantLong RX9 157 48 ∈ wsX9_next1 := by decide +kernel
theorem lc159_X9_next1 : Jvm.Cond.constantLong RX9 159 57 ∈ wsX9_next1 := by decide +kernel
theorem fl149_X9_next1 : Cond.fieldLink RX9 149 RX9 (TX9 17).2.1 (TX9 17).2.2.1 ∈ wsX9_next1 := by decide +kernel
theorem fl127_X9_next1 : Cond.fieldLink RX9 127 RX9 (TX9 14).2.1 (TX9 14).2.2.1 ∈ wsX9_next1 := by decide +kernel
theorem lc161_X9_next1 : Jvm.Cond.constantLong RX9 161 10 ∈ wsX9_next1 := by decide +kernel
theorem lc95_X9_next1 : Jvm.Cond.constantLong RX9 95 (-1) ∈ wsX9_next1 := by decide +kernel
theorem lc153_X9_next1 : Jvm.Cond.constantLong RX9 153 27 ∈ wsX9_next1 := by decide +kernel
theorem lc155_X9_next1 : Jvm.Cond.constantLong RX9 155 96 ∈ wsX9_next1 := by decide +kernel
theorem fl163_X9_fail : Cond.fieldLink RX9 163 RX9 (TX9 20).2.1 (TX9 20).2.2.1 ∈ wsX9_fail := by decide +kernel
theorem hi_X9_fail_X9 : ∀ w ∈ u_ws RX9 TX9 45, w ∈ wsX9_fail := by decide +kernel
theorem fl139_X9_fail : Cond.fieldLink RX9 139 RX9 (TX9 16).2.1 (TX9 16).2.2.1 ∈ wsX9_fail := by decide +kernel
theorem fl167_X9_fail : Cond.fieldLink RX9 167 RX9 (TX9 21).2.1 (TX9 21).2.2.1 ∈ wsX9_fail := by decide +kernel
theorem fl163_X9_isWord : Cond.fieldLink RX9 163 RX9 (TX9 20).2.1 (TX9 20).2.2.1 ∈ wsX9_isWord := by decide +kernel
theorem hi_X9_isWord_X9 : ∀ w ∈ u_ws RX9 TX9 45, w ∈ wsX9_isWord := by decide +kernel
theorem fl142_X9_isWord : Cond.fieldLink RX9 142 RX9 (TX9 15).2.1 (TX9 15).2.2.1 ∈ wsX9_isWord := by decide +kernel
theorem fl149_X9_isWord : Cond.fieldLink RX9 149 RX9 (TX9 17).2.1 (TX9 17).2.2.1 ∈ wsX9_isWord := by decide +kernel
theorem fl163_X9_isSign : Cond.fieldLink RX9 163 RX9 (TX9 20).2.1 (TX9 20).2.2.1 ∈ wsX9_isSign := by decide +kernel
theorem hi_X9_isSign_X9 : ∀ w ∈ u_ws RX9 TX9 45, w ∈ wsX9_isSign := by decide +kernel
theorem fl142_X9_isSign : Cond.fieldLink RX9 142 RX9 (TX9 15).2.1 (TX9 15).2.2.1 ∈ wsX9_isSign := by decide +kernel
theorem fl149_X9_isSign : Cond.fieldLink RX9 149 RX9 (TX9 17).2.1 (TX9 17).2.2.1 ∈ wsX9_isSign := by decide +kernel
theorem fl170_X9_opens : Cond.fieldLink RX9 170 RX9 (TX9 19).2.1 (TX9 19).2.2.1 ∈ wsX9_opens := by decide +kernel
theorem hi_X9_opens_X9 : ∀ w ∈ u_ws RX9 TX9 45, w ∈ wsX9_opens := by decide +kernel
theorem lc179_X9_name : Jvm.Cond.constantLong RX9 179 3499582 ∈ wsX9_name := by decide +kernel
theorem lc188_X9_name : Jvm.Cond.constantLong RX9 188 9626 ∈ wsX9_name := by decide +kernel
theorem lc190_X9_name : Jvm.Cond.constantLong RX9 190 6683788 ∈ wsX9_name := by decide +kernel
theorem lc195_X9_name : Jvm.Cond.constantLong RX9 195 5176084822 ∈ wsX9_name := by decide +kernel
theorem lc197_X9_name : Jvm.Cond.constantLong RX9 197 9753499 ∈ wsX9_name := by decide +kernel
theorem lc199_X9_name : Jvm.Cond.constantLong RX9 199 4871861606 ∈ wsX9_name := by decide +kernel
theorem fl108_X9_name : Cond.fieldLink RX9 108 RX9 (TX9 11).2.1 (TX9 11).2.2.1 ∈ wsX9_name := by decide +kernel
theorem hi_X9_name_X9 : ∀ w ∈ u_ws RX9 TX9 45, w ∈ wsX9_name := by decide +kernel
theorem fl114_X9_name : Cond.fieldLink RX9 114 RX9 (TX9 10).2.1 (TX9 10).2.2.1 ∈ wsX9_name := by decide +kernel
theorem fl111_X9_name : Cond.fieldLink RX9 111 RX9 (TX9 12).2.1 (TX9 12).2.2.1 ∈ wsX9_name := by decide +kernel
theorem fl192_X9_name : Cond.fieldLink RX9 192 RX9 (TX9 23).2.1 (TX9 23).2.2.1 ∈ wsX9_name := by decide +kernel
theorem fl74_X9_name : Cond.fieldLink RX9 74 RX9 (TX9 8).2.1 (TX9 8).2.2.1 ∈ wsX9_name := by decide +kernel
theorem fl185_X9_name : Cond.fieldLink RX9 185 RX9 (TX9 22).2.1 (TX9 22).2.2.1 ∈ wsX9_name := by decide +kernel
theorem fl163_X9_one : Cond.fieldLink RX9 163 RX9 (TX9 20).2.1 (TX9 20).2.2.1 ∈ wsX9_one := by decide +kernel
theorem hi_X9_one_X9 : ∀ w ∈ u_ws RX9 TX9 45, w ∈ wsX9_one := by decide +kernel
theorem fl142_X9_one : Cond.fieldLink RX9 142 RX9 (TX9 15).2.1 (TX9 15).2.2.1 ∈ wsX9_one := by decide +kernel
theorem fl149_X9_one : Cond.fieldLink RX9 149 RX9 (TX9 17).2.1 (TX9 17).2.2.1 ∈ wsX9_one := by decide +kernel
theorem fl170_X9_one : Cond.fieldLink RX9 170 RX9 (TX9 19).2.1 (TX9 19).2.2.1 ∈ wsX9_one := by decide +kernel
theorem fl149_X9_added : Cond.fieldLink RX9 149 RX9 (TX9 17).2.1 (TX9 17).2.2.1 ∈ wsX9_added := by decide +kernel
theorem hi_X9_added_X9 : ∀ w ∈ u_ws RX9 TX9 45, w ∈ wsX9_added := by decide +kernel
theorem lc221_X9_added : Jvm.Cond.constantLong RX9 221 43 ∈ wsX9_added := by decide +kernel
theorem lc223_X9_not : Jvm.Cond.constantLong RX9 223 10631 ∈ wsX9_not := by decide +kernel
theorem fl170_X9_not : Cond.fieldLink RX9 170 RX9 (TX9 19).2.1 (TX9 19).2.2.1 ∈ wsX9_not := by decide +kernel
theorem hi_X9_not_X9 : ∀ w ∈ u_ws RX9 TX9 45, w ∈ wsX9_not := by decide +kernel
theorem fl149_X9_not : Cond.fieldLink RX9 149 RX9 (TX9 17).2.1 (TX9 17).2.2.1 ∈ wsX9_not := by decide +kernel
theorem lc231_X9_not : Jvm.Cond.constantLong RX9 231 60 ∈ wsX9_not := by decide +kernel
theorem lc233_X9_both : Jvm.Cond.constantLong RX9 233 1111 ∈ wsX9_both := by decide +kernel
theorem lc238_X9_either : Jvm.Cond.constantLong RX9 238 423 ∈ wsX9_either := by decide +kernel
theorem fl163_X9_part : Cond.fieldLink RX9 163 RX9 (TX9 20).2.1 (TX9 20).2.2.1 ∈ wsX9_part := by decide +kernel
theorem hi_X9_part_X9 : ∀ w ∈ u_ws RX9 TX9 45, w ∈ wsX9_part := by decide +kernel
theorem fl185_X9_read : Cond.fieldLink RX9 185 RX9 (TX9 22).2.1 (TX9 22).2.2.1 ∈ wsX9_read := by decide +kernel
theorem hi_X9_read_X9 : ∀ w ∈ u_ws RX9 TX9 45, w ∈ wsX9_read := by decide +kernel
theorem fl192_X9_read : Cond.fieldLink RX9 192 RX9 (TX9 23).2.1 (TX9 23).2.2.1 ∈ wsX9_read := by decide +kernel
theorem fl130_X9_read : Cond.fieldLink RX9 130 RX9 (TX9 13).2.1 (TX9 13).2.2.1 ∈ wsX9_read := by decide +kernel
theorem fl17_X9_read : Cond.fieldLink RX9 17 RX9 (TX9 2).2.1 (TX9 2).2.2.1 ∈ wsX9_read := by decide +kernel
theorem fl127_X9_read : Cond.fieldLink RX9 127 RX9 (TX9 14).2.1 (TX9 14).2.2.1 ∈ wsX9_read := by decide +kernel
theorem fl133_X9_read : Cond.fieldLink RX9 133 RX9 (TX9 18).2.1 (TX9 18).2.2.1 ∈ wsX9_read := by decide +kernel
theorem fl170_X9_read : Cond.fieldLink RX9 170 RX9 (TX9 19).2.1 (TX9 19).2.2.1 ∈ wsX9_read := by decide +kernel
theorem fl163_X9_read : Cond.fieldLink RX9 163 RX9 (TX9 20).2.1 (TX9 20).2.2.1 ∈ wsX9_read := by decide +kernel
theorem lc240_X9_read : Jvm.Cond.constantLong RX9 240 168755 ∈ wsX9_read := by decide +kernel
theorem lc246_X9_read : Jvm.Cond.constantLong RX9 246 385268 ∈ wsX9_read := by decide +kernel
theorem lc248_X9_read : Jvm.Cond.constantLong RX9 248 1613 ∈ wsX9_read := by decide +kernel
theorem fl142_X9_read : Cond.fieldLink RX9 142 RX9 (TX9 15).2.1 (TX9 15).2.2.1 ∈ wsX9_read := by decide +kernel
theorem fl71_X9_text : Cond.fieldLink RX9 71 RX9 (TX9 3).2.1 (TX9 3).2.2.1 ∈ wsX9_text := by decide +kernel
theorem hi_X9_text_X9 : ∀ w ∈ u_ws RX9 TX9 45, w ∈ wsX9_text := by decide +kernel
theorem fl124_X9_text : Cond.fieldLink RX9 124 RX9 (TX9 6).2.1 (TX9 6).2.2.1 ∈ wsX9_text := by decide +kernel
theorem fl13_X9_text : Cond.fieldLink RX9 13 RX9 (TX9 1).2.1 (TX9 1).2.2.1 ∈ wsX9_text := by decide +kernel
theorem fl20_X9_text : Cond.fieldLink RX9 20 RX9 (TX9 5).2.1 (TX9 5).2.2.1 ∈ wsX9_text := by decide +kernel
theorem fl17_X9_text : Cond.fieldLink RX9 17 RX9 (TX9 2).2.1 (TX9 2).2.2.1 ∈ wsX9_text := by decide +kernel
theorem fl163_X9_text : Cond.fieldLink RX9 163 RX9 (TX9 20).2.1 (TX9 20).2.2.1 ∈ wsX9_text := by decide +kernel
theorem fl167_X9_text : Cond.fieldLink RX9 167 RX9 (TX9 21).2.1 (TX9 21).2.2.1 ∈ wsX9_text := by decide +kernel
theorem fl71_X9_force : Cond.fieldLink RX9 71 RX9 (TX9 3).2.1 (TX9 3).2.2.1 ∈ wsX9_force := by decide +kernel
theorem hi_X9_force_X9 : ∀ w ∈ u_ws RX9 TX9 45, w ∈ wsX9_force := by decide +kernel
theorem fl254_X9_force : Cond.fieldLink RX9 254 RX9 (TX9 4).2.1 (TX9 4).2.2.1 ∈ wsX9_force := by decide +kernel
theorem fl254_X9_bet : Cond.fieldLink RX9 254 RX9 (TX9 4).2.1 (TX9 4).2.2.1 ∈ wsX9_bet := by decide +kernel
theorem hi_X9_bet_X9 : ∀ w ∈ u_ws RX9 TX9 45, w ∈ wsX9_bet := by decide +kernel
abbrev rmX9_in : Room := { frames := 0, cells := 0, slots := 0, locals := 0 }
def c_X9_in (p0 : Int64) (p2 : Int64) (p4 : Int64) (σ : HS) : Option (Int32 × HS) := (if (lg_cmp p0 p2) < 0 then (some (0, σ)) else (if 0 < (lg_cmp p0 p4) then (some (0, σ)) else (some (1, σ))))
set_option maxHeartbeats 4000000 in
set_option maxRecDepth 100000 in
theorem w_X9_in {p : Program} {l : Launch} {e : Env} {s : State} {m : MethodId} {args : Array Value} {below : List Frame} {meth : Method} {c : Code} {A : Nat → Prop} {G : WD}  {r0 : Int32} {τ : HS} {p0 : Int64} {p2 : Int64} {p4 : Int64} {σ : HS}  (hG : GX G mY)  (hC : Cx mE G.1 G.2.1 mY cX9_in 6 (some .boolean) RX9 wsX9_in p s m args meth c A) (h : c_X9_in p0 p2 p4 σ = some (r0, τ)) : V p l e rmX9_in s m args below meth c 6 A G mY 0 0 (MQ below (QI G mY A r0 τ) args s 0 0 A) σ 0 [(0, .long p0), (2, .long p2), (4, .long p4)] [] := by
  rw [c_X9_in] at h
  refine v_lload_n hC dX9_in_0 0 rfl ?_
  refine v_lload_n hC dX9_in_1 1 rfl ?_
  refine v_lcmp hC dX9_in_2 ?_
  refine v_if_lt (tgt := 17) hC dX9_in_3 (by decide) (fun c_1 => ?_) (fun c_1 => ?_)
  · replace h := ift c_1 h
    refine v_iconst (v := 0) hC dX9_in_17 (by decide) ?_
    exact v_zret hC rfl rfl dX9_in_18 h
  · replace h := ifn c_1 h
    refine v_lload_n hC dX9_in_6 0 rfl ?_
    refine v_lload hC dX9_in_7 2 rfl ?_
    refine v_lcmp hC dX9_in_9 ?_
    refine v_if_gt (tgt := 17) hC dX9_in_10 (by decide) (fun c_2 => ?_) (fun c_2 => ?_)
    · replace h := ift c_2 h
      refine v_iconst (v := 0) hC dX9_in_17 (by decide) ?_
      exact v_zret hC rfl rfl dX9_in_18 h
    · replace h := ifn c_2 h
      refine v_iconst (v := 1) hC dX9_in_13 (by decide) ?_
      refine v_goto (tgt := 18) hC dX9_in_14 (by decide) ?_
      exact v_zret hC rfl rfl dX9_in_18 h
theorem k_X9_in (l : Launch) {G : WD}   {r0 : Int32} {τ : HS} {p0 : Int64} {p2 : Int64} {p4 : Int64} {σ : HS}  (hG : GX G mY)  (h : c_X9_in p0 p2 p4 σ = some (r0, τ)) : MI mE l yX9_in wsX9_in rmX9_in G mY [.long p0, .long p2, .long p4] σ r0 τ :=
  MI.of RX9 (by decide) rfl rfl (Nat.le_of_ble_eq_true rfl) rfl rfl (fun p e s m below meth c hC => w_X9_in  hG  hC h)
abbrev rmX9_spell : Room := { frames := 0, cells := 0, slots := 0, locals := 0 }
def c_X9_spell_3 : Nat → Int32 → Int64 → Int32 → HS → Option HS
  | 0, _, _, _, _ => none
  | n + 1, x1, x2, x4, σ => (if 8 ≤ x4 then (some σ) else (if inb (x1 + x4) 960 = true then (lt (sI σ 1 (ix (x1 + x4)) (Int64.toInt32 ((x2 >>> (Int32.toInt64 (56 - (8 * x4)) &&& 63)) &&& 255))) (fun s3 => (c_X9_spell_3 n x1 x2 (x4 + 1) s3))) else none))
set_option maxHeartbeats 4000000 in
set_option maxRecDepth 100000 in
theorem w_X9_spell_3 {p : Program} {l : Launch} {e : Env} {s : State} {m : MethodId} {args : Array Value} {below : List Frame} {meth : Method} {c : Code} {A : Nat → Prop} {G : WD}  {τ : HS}   (hG : GX G mY) (hO0 : Ob G mY 0 8) (hC : Cx mE G.1 G.2.1 mY cX9_spell 5 none RX9 wsX9_spell p s m args meth c A)  : ∀ (n : Nat) (x1 : Int32) (x2 : Int64) (x4 : Int32) (σ : HS), c_X9_spell_3 n x1 x2 x4 σ = some τ → V p l e rmX9_spell s m args below meth c 5 A G mY 0 0 (MQ below (QV G mY A τ) args s 0 0 A) σ 3 [(0, .ref (G.2.2.1 0)), (1, .int x1), (2, .long x2), (4, .int x4)] [] := by
  intro n
  induction n with
  | zero => intro x1 x2 x4 σ h; exact nof h
  | succ n ih =>
    intro x1 x2 x4 σ h
    rw [c_X9_spell_3] at h
    refine v_iload hC dX9_spell_3 3 rfl ?_
    refine v_bipush (v := 8) hC dX9_spell_5 (by decide) ?_
    refine v_icmp_ge (tgt := 40) hC dX9_spell_7 (by decide) (fun c_1 => ?_) (fun c_1 => ?_)
    · replace h := ift c_1 h
      exact v_vret hC rfl dX9_spell_40 h
    · replace h := ifn c_1 h
      refine v_aload_n hC dX9_spell_10 0 rfl ?_
      refine v_get (C := RX9) (T := TX9) (N := 45) (ci := 8) (k := 1) (v := .ref (G.2.2.1 1)) hC hO0 hi_X9_spell_X9 rfl (by decide) (by decide) rfl rfl fl13_X9_spell dX9_spell_11 rfl ?_
      refine v_iload_n hC dX9_spell_14 1 rfl ?_
      refine v_iload hC dX9_spell_15 3 rfl ?_
      refine v_iadd hC dX9_spell_17 ?_
      refine v_lload_n hC dX9_spell_18 2 rfl ?_
      refine v_bipush (v := 56) hC dX9_spell_19 (by decide) ?_
      refine v_bipush (v := 8) hC dX9_spell_21 (by decide) ?_
      refine v_iload hC dX9_spell_23 3 rfl ?_
      refine v_imul hC dX9_spell_25 ?_
      refine v_isub hC dX9_spell_26 ?_
      refine v_lshr hC dX9_spell_27 ?_
      refine v_ldc2 (v := 255) hC lc83_X9_spell dX9_spell_28 ?_
      refine v_land hC dX9_spell_31 ?_
      refine v_l2i hC dX9_spell_32 ?_
      obtain ⟨g_2, h⟩ := gd h
      refine v_iast hC (obM_8_1 hG hO0).1 (obM_8_1 hG hO0).2 (t0 := 0) rfl g_2 dX9_spell_33 ?_
      obtain ⟨s3, e4, h⟩ := ld h
      refine V.eq e4 ?_
      refine v_iinc (v := (x4 + 1)) (L' := [(0, .ref (G.2.2.1 0)), (1, .int x1), (2, .long x2), (4, .int (x4 + 1))]) hC dX9_spell_34 3 rfl rfl (by decide) [1, 2, 3, 0] rfl ?_
      refine v_goto (tgt := 3) hC dX9_spell_37 (by decide) ?_
      exact ih _ _ _ _ h
def c_X9_spell (p1 : Int32) (p2 : Int64) (σ : HS) : Option HS := (c_X9_spell_3 FU p1 p2 0 σ)
set_option maxHeartbeats 4000000 in
set_option maxRecDepth 100000 in
theorem w_X9_spell {p : Program} {l : Launch} {e : Env} {s : State} {m : MethodId} {args : Array Value} {below : List Frame} {meth : Method} {c : Code} {A : Nat → Prop} {G : WD}  {τ : HS} {p1 : Int32} {p2 : Int64} {σ : HS}  (hG : GX G mY) (hO0 : Ob G mY 0 8) (hC : Cx mE G.1 G.2.1 mY cX9_spell 5 none RX9 wsX9_spell p s m args meth c A) (h : c_X9_spell p1 p2 σ = some τ) : V p l e rmX9_spell s m args below meth c 5 A G mY 0 0 (MQ below (QV G mY A τ) args s 0 0 A) σ 0 [(0, .ref (G.2.2.1 0)), (1, .int p1), (2, .long p2)] [] := by
  rw [c_X9_spell] at h
  refine v_iconst (v := 0) hC dX9_spell_0 (by decide) ?_
  refine v_istore (L' := [(0, .ref (G.2.2.1 0)), (1, .int p1), (2, .long p2), (4, .int 0)]) hC dX9_spell_1 (by decide) [1, 2, 3, 0] rfl ?_
  exact w_X9_spell_3 hG (hO0) hC FU _ _ _ _ h
theorem k_X9_spell (l : Launch) {G : WD}   {τ : HS} {p1 : Int32} {p2 : Int64} {σ : HS}  (hG : GX G mY) (hO0 : Ob G mY 0 8) (h : c_X9_spell p1 p2 σ = some τ) : MV mE l yX9_spell wsX9_spell rmX9_spell G mY [.ref (G.2.2.1 0), .int p1, .long p2] σ τ :=
  MV.of RX9 (by decide) rfl rfl (Nat.le_of_ble_eq_true rfl) rfl rfl (fun p e s m below meth c hC => w_X9_spell  hG hO0 hC h)
abbrev rmX9_plainly : Room := { frames := 0, cells := 0, slots := 0, locals := 0 }
def c_X9_plainly_2 : Nat → Int32 → HS → Option HS
  | 0, _, _ => none
  | n + 1, x1, σ => (if 12 ≤ x1 then (some σ) else (if inb x1 12 = true then (lt (sI σ 4 (ix x1) x1) (fun s3 => (c_X9_plainly_2 n (x1 + 1) s3))) else none))
set_option maxHeartbeats 4000000 in
set_option maxRecDepth 100000 in
theorem w_X9_plainly_2 {p : Program} {l : Launch} {e : Env} {s : State} {m : MethodId} {args : Array Value} {below : List Frame} {meth : Method} {c : Code} {A : Nat → Prop} {G : WD}  {τ : HS}   (hG : GX G mY) (hO0 : Ob G mY 0 8) (hC : Cx mE G.1 G.2.1 mY cX9_plainly 2 none RX9 wsX9_plainly p s m args meth c A)  : ∀ (n : Nat) (x1 : Int32) (σ : HS), c_X9_plainly_2 n x1 σ = some τ → V p l e rmX9_plainly s m args below meth c 2 A G mY 0 0 (MQ below (QV G mY A τ) args s 0 0 A) σ 2 [(0, .ref (G.2.2.1 0)), (1, .int x1)] [] := by
  intro n
  induction n with
  | zero => intro x1 σ h; exact nof h
  | succ n ih =>
    intro x1 σ h
    rw [c_X9_plainly_2] at h
    refine v_iload_n hC dX9_plainly_2 1 rfl ?_
    refine v_bipush (v := 12) hC dX9_plainly_3 (by decide) ?_
    refine v_icmp_ge (tgt := 21) hC dX9_plainly_5 (by decide) (fun c_1 => ?_) (fun c_1 => ?_)
    · replace h := ift c_1 h
      exact v_vret hC rfl dX9_plainly_21 h
    · replace h := ifn c_1 h
      refine v_aload_n hC dX9_plainly_8 0 rfl ?_
      refine v_get (C := RX9) (T := TX9) (N := 45) (ci := 8) (k := 7) (v := .ref (G.2.2.1 4)) hC hO0 hi_X9_plainly_X9 rfl (by decide) (by decide) rfl rfl fl23_X9_plainly dX9_plainly_9 rfl ?_
      refine v_iload_n hC dX9_plainly_12 1 rfl ?_
      refine v_iload_n hC dX9_plainly_13 1 rfl ?_
      obtain ⟨g_2, h⟩ := gd h
      refine v_iast hC (obM_8_7 hG hO0).1 (obM_8_7 hG hO0).2 (t0 := 0) rfl g_2 dX9_plainly_14 ?_
      obtain ⟨s3, e4, h⟩ := ld h
      refine V.eq e4 ?_
      refine v_iinc (v := (x1 + 1)) (L' := [(0, .ref (G.2.2.1 0)), (1, .int (x1 + 1))]) hC dX9_plainly_15 1 rfl rfl (by decide) [1, 0] rfl ?_
      refine v_goto (tgt := 2) hC dX9_plainly_18 (by decide) ?_
      exact ih _ _ h
def c_X9_plainly (σ : HS) : Option HS := (c_X9_plainly_2 FU 0 σ)
set_option maxHeartbeats 4000000 in
set_option maxRecDepth 100000 in
theorem w_X9_plainly {p : Program} {l : Launch} {e : Env} {s : State} {m : MethodId} {args : Array Value} {below : List Frame} {meth : Method} {c : Code} {A : Nat → Prop} {G : WD}  {τ : HS}  {σ : HS}  (hG : GX G mY) (hO0 : Ob G mY 0 8) (hC : Cx mE G.1 G.2.1 mY cX9_plainly 2 none RX9 wsX9_plainly p s m args meth c A) (h : c_X9_plainly  σ = some τ) : V p l e rmX9_plainly s m args below meth c 2 A G mY 0 0 (MQ below (QV G mY A τ) args s 0 0 A) σ 0 [(0, .ref (G.2.2.1 0))] [] := by
  rw [c_X9_plainly] at h
  refine v_iconst (v := 0) hC dX9_plainly_0 (by decide) ?_
  refine v_istore_n (L' := [(0, .ref (G.2.2.1 0)), (1, .int 0)]) hC dX9_plainly_1 (by decide) [1, 0] rfl ?_
  exact w_X9_plainly_2 hG (hO0) hC FU _ _ h
theorem k_X9_plainly (l : Launch) {G : WD}   {τ : HS}  {σ : HS}  (hG : GX G mY) (hO0 : Ob G mY 0 8) (h : c_X9_plainly  σ = some τ) : MV mE l yX9_plainly wsX9_plainly rmX9_plainly G mY [.ref (G.2.2.1 0)] σ τ :=
  MV.of RX9 (by decide) rfl rfl (Nat.le_of_ble_eq_true rfl) rfl rfl (fun p e s m below meth c hC => w_X9_plainly  hG hO0 hC h)
abbrev rmX9_isBox : Room := { frames := 1, cells := 0, slots := 0, locals := 25 }
def c_X9_isBox (p1 : Int32) (σ : HS) : Option (Int32 × HS) := (bi2 (c_X9_in (Int32.toInt64 p1) 0 (Int32.toInt64 ((gI σ 0 8) - 1)) σ) (fun r3 s2 => (if isz r3 = true then (some (r3, s2)) else none)))
set_option maxHeartbeats 4000000 in
set_option maxRecDepth 100000 in
theorem w_X9_isBox {p : Program} {l : Launch} {e : Env} {s : State} {m : MethodId} {args : Array Value} {below : List Frame} {meth : Method} {c : Code} {A : Nat → Prop} {G : WD}  {r0 : Int32} {τ : HS} {p1 : Int32} {σ : HS}  (hG : GX G mY) (hO0 : Ob G mY 0 8) (hC : Cx mE G.1 G.2.1 mY cX9_isBox 2 (some .boolean) RX9 wsX9_isBox p s m args meth c A) (h : c_X9_isBox p1 σ = some (r0, τ)) : V p l e rmX9_isBox s m args below meth c 2 A G mY 0 0 (MQ below (QI G mY A r0 τ) args s 0 0 A) σ 0 [(0, .ref (G.2.2.1 0)), (1, .int p1)] [] := by
  rw [c_X9_isBox] at h
  refine v_iload_n hC dX9_isBox_0 1 rfl ?_
  refine v_i2l hC dX9_isBox_1 ?_
  refine v_lconst (v := 0) hC dX9_isBox_2 (by decide) ?_
  refine v_aload_n hC dX9_isBox_3 0 rfl ?_
  refine v_get (C := RX9) (T := TX9) (N := 45) (ci := 8) (k := 8) (v := .int (gI σ 0 8)) hC hO0 hi_X9_isBox_X9 rfl (by decide) (by decide) rfl rfl fl74_X9_isBox dX9_isBox_4 rfl ?_
  refine v_iconst (v := 1) hC dX9_isBox_7 (by decide) ?_
  refine v_isub hC dX9_isBox_8 ?_
  refine v_i2l hC dX9_isBox_9 ?_
  obtain ⟨r3, s2, hc_1, h⟩ := bd2 h
  refine v_callSI hC mE_ok (n := 3) (As := [.long (Int32.toInt64 p1), .long 0, .long (Int32.toInt64 ((gI σ 0 8) - 1))]) (k_X9_in l hG hc_1) (va_cwS 3 hC.1.2.2.2.2 gX9_isBox_X9_in rfl rfl rfl (by decide +kernel) ⟨(Nat.le_of_ble_eq_true rfl), (Nat.le_of_ble_eq_true rfl)⟩) rfl (Nat.le_of_ble_eq_true rfl) ⟨Nat.zero_le _, Nat.zero_le _⟩ dX9_isBox_10 rfl ?_
  obtain ⟨g_4, h⟩ := gd h
  exact v_zret hC rfl (isz_n g_4) dX9_isBox_13 h
theorem k_X9_isBox (l : Launch) {G : WD}   {r0 : Int32} {τ : HS} {p1 : Int32} {σ : HS}  (hG : GX G mY) (hO0 : Ob G mY 0 8) (h : c_X9_isBox p1 σ = some (r0, τ)) : MI mE l yX9_isBox wsX9_isBox rmX9_isBox G mY [.ref (G.2.2.1 0), .int p1] σ r0 τ :=
  MI.of RX9 (by decide) rfl rfl (Nat.le_of_ble_eq_true rfl) rfl rfl (fun p e s m below meth c hC => w_X9_isBox  hG hO0 hC h)
abbrev rmX9_boxes : Room := { frames := 1, cells := 0, slots := 0, locals := 25 }
def c_X9_boxes (p1 : Int32) (σ : HS) : Option (Int32 × HS) := (bi2 (c_X9_in (Int32.toInt64 p1) 1 12 σ) (fun r3 s2 => (if r3 = 0 then (some ((-2), s2)) else (lt (sI s2 0 8 p1) (fun s5 => (bi1 (c_X9_plainly s5) (fun s8 => (some ((gI s2 0 8), s8)))))))))
set_option maxHeartbeats 4000000 in
set_option maxRecDepth 100000 in
theorem w_X9_boxes {p : Program} {l : Launch} {e : Env} {s : State} {m : MethodId} {args : Array Value} {below : List Frame} {meth : Method} {c : Code} {A : Nat → Prop} {G : WD}  {r0 : Int32} {τ : HS} {p1 : Int32} {σ : HS}  (hG : GX G mY) (hO0 : Ob G mY 0 8) (hC : Cx mE G.1 G.2.1 mY cX9_boxes 3 (some .int) RX9 wsX9_boxes p s m args meth c A) (h : c_X9_boxes p1 σ = some (r0, τ)) : V p l e rmX9_boxes s m args below meth c 3 A G mY 0 0 (MQ below (QI G mY A r0 τ) args s 0 0 A) σ 0 [(0, .ref (G.2.2.1 0)), (1, .int p1)] [] := by
  rw [c_X9_boxes] at h
  refine v_iload_n hC dX9_boxes_0 1 rfl ?_
  refine v_i2l hC dX9_boxes_1 ?_
  refine v_lconst (v := 1) hC dX9_boxes_2 (by decide) ?_
  refine v_ldc2 (v := 12) hC lc89_X9_boxes dX9_boxes_3 ?_
  obtain ⟨r3, s2, hc_1, h⟩ := bd2 h
  refine v_callSI hC mE_ok (n := 3) (As := [.long (Int32.toInt64 p1), .long 1, .long 12]) (k_X9_in l hG hc_1) (va_cwS 3 hC.1.2.2.2.2 gX9_boxes_X9_in rfl rfl rfl (by decide +kernel) ⟨(Nat.le_of_ble_eq_true rfl), (Nat.le_of_ble_eq_true rfl)⟩) rfl (Nat.le_of_ble_eq_true rfl) ⟨Nat.zero_le _, Nat.zero_le _⟩ dX9_boxes_6 rfl ?_
  refine v_if_ne (tgt := 15) hC dX9_boxes_9 (by decide) (fun c_4 => ?_) (fun c_4 => ?_)
  · replace h := ifn c_4 h
    refine v_aload_n hC dX9_boxes_15 0 rfl ?_
    refine v_get (C := RX9) (T := TX9) (N := 45) (ci := 8) (k := 8) (v := .int (gI s2 0 8)) hC hO0 hi_X9_boxes_X9 rfl (by decide) (by decide) rfl rfl fl74_X9_boxes dX9_boxes_16 rfl ?_
    refine v_istore_n (L' := [(0, .ref (G.2.2.1 0)), (1, .int p1), (2, .int (gI s2 0 8))]) hC dX9_boxes_19 (by decide) [1, 2, 0] rfl ?_
    refine v_aload_n hC dX9_boxes_20 0 rfl ?_
    refine v_iload_n hC dX9_boxes_21 1 rfl ?_
    refine v_putI (C := RX9) (T := TX9) (N := 45) (ci := 8) (k := 8) (ty := .int) hC hO0 hi_X9_boxes_X9 rfl (by decide) (by decide) rfl rfl tyX9_ok nmX9 fl74_X9_boxes rfl rfl rfl rfl rfl dX9_boxes_22 ?_
    obtain ⟨s5, e6, h⟩ := ld h
    refine V.eq e6 ?_
    refine v_aload_n hC dX9_boxes_25 0 rfl ?_
    obtain ⟨s8, hc_7, h⟩ := bd1 h
    refine v_callVV hC mE_ok (n := 0) (As := []) (k_X9_plainly l hG (hO0) hc_7) (cwV 0 hC.1.2.2.2.2 gX9_boxes_X9_plainly rfl rfl rfl (by decide +kernel) ⟨(Nat.le_of_ble_eq_true rfl), (Nat.le_of_ble_eq_true rfl)⟩) hO0 (by decide) rfl rfl rfl (Nat.le_of_ble_eq_true rfl) ⟨Nat.zero_le _, Nat.zero_le _⟩ dX9_boxes_26 rfl ?_
    refine v_iload_n hC dX9_boxes_29 2 rfl ?_
    exact v_iret hC rfl dX9_boxes_30 h
  · replace h := ift c_4 h
    refine v_bipush (v := (-2)) hC dX9_boxes_12 (by decide) ?_
    exact v_iret hC rfl dX9_boxes_14 h
theorem k_X9_boxes (l : Launch) {G : WD}   {r0 : Int32} {τ : HS} {p1 : Int32} {σ : HS}  (hG : GX G mY) (hO0 : Ob G mY 0 8) (h : c_X9_boxes p1 σ = some (r0, τ)) : MI mE l yX9_boxes wsX9_boxes rmX9_boxes G mY [.ref (G.2.2.1 0), .int p1] σ r0 τ :=
  MI.of RX9 (by decide) rfl rfl (Nat.le_of_ble_eq_true rfl) rfl rfl (fun p e s m below meth c hC => w_X9_boxes  hG hO0 hC h)
abbrev rmX9_looks : Room := { frames := 1, cells := 0, slots := 0, locals := 25 }
def c_X9_looks (p1 : Int32) (σ : HS) : Option (Int32 × HS) := (bi2 (c_X9_in (Int32.toInt64 p1) 1 12 σ) (fun r3 s2 => (if r3 = 0 then (some ((-2), s2)) else (lt (sI s2 0 9 p1) (fun s5 => (some ((gI s2 0 9), s5)))))))
set_option maxHeartbeats 4000000 in
set_option maxRecDepth 100000 in
theorem w_X9_looks {p : Program} {l : Launch} {e : Env} {s : State} {m : MethodId} {args : Array Value} {below : List Frame} {meth : Method} {c : Code} {A : Nat → Prop} {G : WD}  {r0 : Int32} {τ : HS} {p1 : Int32} {σ : HS}  (hG : GX G mY) (hO0 : Ob G mY 0 8) (hC : Cx mE G.1 G.2.1 mY cX9_looks 3 (some .int) RX9 wsX9_looks p s m args meth c A) (h : c_X9_looks p1 σ = some (r0, τ)) : V p l e rmX9_looks s m args below meth c 3 A G mY 0 0 (MQ below (QI G mY A r0 τ) args s 0 0 A) σ 0 [(0, .ref (G.2.2.1 0)), (1, .int p1)] [] := by
  rw [c_X9_looks] at h
  refine v_iload_n hC dX9_looks_0 1 rfl ?_
  refine v_i2l hC dX9_looks_1 ?_
  refine v_lconst (v := 1) hC dX9_looks_2 (by decide) ?_
  refine v_ldc2 (v := 12) hC lc89_X9_looks dX9_looks_3 ?_
  obtain ⟨r3, s2, hc_1, h⟩ := bd2 h
  refine v_callSI hC mE_ok (n := 3) (As := [.long (Int32.toInt64 p1), .long 1, .long 12]) (k_X9_in l hG hc_1) (va_cwS 3 hC.1.2.2.2.2 gX9_looks_X9_in rfl rfl rfl (by decide +kernel) ⟨(Nat.le_of_ble_eq_true rfl), (Nat.le_of_ble_eq_true rfl)⟩) rfl (Nat.le_of_ble_eq_true rfl) ⟨Nat.zero_le _, Nat.zero_le _⟩ dX9_looks_6 rfl ?_
  refine v_if_ne (tgt := 15) hC dX9_looks_9 (by decide) (fun c_4 => ?_) (fun c_4 => ?_)
  · replace h := ifn c_4 h
    refine v_aload_n hC dX9_looks_15 0 rfl ?_
    refine v_get (C := RX9) (T := TX9) (N := 45) (ci := 8) (k := 9) (v := .int (gI s2 0 9)) hC hO0 hi_X9_looks_X9 rfl (by decide) (by decide) rfl rfl fl77_X9_looks dX9_looks_16 rfl ?_
    refine v_istore_n (L' := [(0, .ref (G.2.2.1 0)), (1, .int p1), (2, .int (gI s2 0 9))]) hC dX9_looks_19 (by decide) [1, 2, 0] rfl ?_
    refine v_aload_n hC dX9_looks_20 0 rfl ?_
    refine v_iload_n hC dX9_looks_21 1 rfl ?_
    refine v_putI (C := RX9) (T := TX9) (N := 45) (ci := 8) (k := 9) (ty := .int) hC hO0 hi_X9_looks_X9 rfl (by decide) (by decide) rfl rfl tyX9_ok nmX9 fl77_X9_looks rfl rfl rfl rfl rfl dX9_looks_22 ?_
    obtain ⟨s5, e6, h⟩ := ld h
    refine V.eq e6 ?_
    refine v_iload_n hC dX9_looks_25 2 rfl ?_
    exact v_iret hC rfl dX9_looks_26 h
  · replace h := ift c_4 h
    refine v_bipush (v := (-2)) hC dX9_looks_12 (by decide) ?_
    exact v_iret hC rfl dX9_looks_14 h
theorem k_X9_looks (l : Launch) {G : WD}   {r0 : Int32} {τ : HS} {p1 : Int32} {σ : HS}  (hG : GX G mY) (hO0 : Ob G mY 0 8) (h : c_X9_looks p1 σ = some (r0, τ)) : MI mE l yX9_looks wsX9_looks rmX9_looks G mY [.ref (G.2.2.1 0), .int p1] σ r0 τ :=
  MI.of RX9 (by decide) rfl rfl (Nat.le_of_ble_eq_true rfl) rfl rfl (fun p e s m below meth c hC => w_X9_looks  hG hO0 hC h)
abbrev rmX9_isSheet : Room := { frames := 1, cells := 0, slots := 0, locals := 25 }
def c_X9_isSheet (p0 : Int32) (σ : HS) : Option (Int32 × HS) := (bi2 (c_X9_in (Int32.toInt64 p0) 0 3 σ) (fun r3 s2 => (if isz r3 = true then (some (r3, s2)) else none)))
set_option maxHeartbeats 4000000 in
set_option maxRecDepth 100000 in
theorem w_X9_isSheet {p : Program} {l : Launch} {e : Env} {s : State} {m : MethodId} {args : Array Value} {below : List Frame} {meth : Method} {c : Code} {A : Nat → Prop} {G : WD}  {r0 : Int32} {τ : HS} {p0 : Int32} {σ : HS}  (hG : GX G mY)  (hC : Cx mE G.1 G.2.1 mY cX9_isSheet 1 (some .boolean) RX9 wsX9_isSheet p s m args meth c A) (h : c_X9_isSheet p0 σ = some (r0, τ)) : V p l e rmX9_isSheet s m args below meth c 1 A G mY 0 0 (MQ below (QI G mY A r0 τ) args s 0 0 A) σ 0 [(0, .int p0)] [] := by
  rw [c_X9_isSheet] at h
  refine v_iload_n hC dX9_isSheet_0 0 rfl ?_
  refine v_i2l hC dX9_isSheet_1 ?_
  refine v_lconst (v := 0) hC dX9_isSheet_2 (by decide) ?_
  refine v_ldc2 (v := 3) hC lc353_X9_isSheet dX9_isSheet_3 ?_
  obtain ⟨r3, s2, hc_1, h⟩ := bd2 h
  refine v_callSI hC mE_ok (n := 3) (As := [.long (Int32.toInt64 p0), .long 0, .long 3]) (k_X9_in l hG hc_1) (va_cwS 3 hC.1.2.2.2.2 gX9_isSheet_X9_in rfl rfl rfl (by decide +kernel) ⟨(Nat.le_of_ble_eq_true rfl), (Nat.le_of_ble_eq_true rfl)⟩) rfl (Nat.le_of_ble_eq_true rfl) ⟨Nat.zero_le _, Nat.zero_le _⟩ dX9_isSheet_6 rfl ?_
  obtain ⟨g_4, h⟩ := gd h
  exact v_zret hC rfl (isz_n g_4) dX9_isSheet_9 h
theorem k_X9_isSheet (l : Launch) {G : WD}   {r0 : Int32} {τ : HS} {p0 : Int32} {σ : HS}  (hG : GX G mY)  (h : c_X9_isSheet p0 σ = some (r0, τ)) : MI mE l yX9_isSheet wsX9_isSheet rmX9_isSheet G mY [.int p0] σ r0 τ :=
  MI.of RX9 (by decide) rfl rfl (Nat.le_of_ble_eq_true rfl) rfl rfl (fun p e s m below meth c hC => w_X9_isSheet  hG  hC h)
abbrev rmX9_lay : Room := { frames := 2, cells := 0, slots := 0, locals := 45 }
def c_X9_lay_135 (k45 : Int32 → Int32 → Int32 → Int32 → HS → Option (Int32 × HS)) (x1 : Int32) (x2 : Int32) (x4 : Int32) (y0 : Int32) (y1 : Int32) (σ : HS) : Option (Int32 × HS) := (k45 x1 x2 (y0 + y1) (x4 + 1) σ)
set_option maxHeartbeats 4000000 in
set_option maxRecDepth 100000 in
theorem w_X9_lay_135 {p : Program} {l : Launch} {e : Env} {s : State} {m : MethodId} {args : Array Value} {below : List Frame} {meth : Method} {c : Code} {A : Nat → Prop} {G : WD}  {r0 : Int32} {τ : HS}  {k45 : Int32 → Int32 → Int32 → Int32 → HS → Option (Int32 × HS)} {x1 : Int32} {x2 : Int32} {x4 : Int32} {y0 : Int32} {y1 : Int32} {σ : HS}  (hG : GX G mY) (hO0 : Ob G mY 0 8) (hC : Cx mE G.1 G.2.1 mY cX9_lay 6 (some .int) RX9 wsX9_lay p s m args meth c A) (hk45 : ∀ (x1 : Int32) (x2 : Int32) (x3 : Int32) (x4 : Int32) (σ : HS), k45 x1 x2 x3 x4 σ = some (r0, τ) → V p l e rmX9_lay s m args below meth c 6 A G mY 0 0 (MQ below (QI G mY A r0 τ) args s 0 0 A) σ 45 [(0, .ref (G.2.2.1 0)), (1, .int x1), (2, .int x2), (3, .int x3), (4, .int x4)] []) (h : c_X9_lay_135 k45 x1 x2 x4 y0 y1 σ = some (r0, τ)) : V p l e rmX9_lay s m args below meth c 6 A G mY 0 0 (MQ below (QI G mY A r0 τ) args s 0 0 A) σ 135 [(0, .ref (G.2.2.1 0)), (1, .int x1), (2, .int x2), (4, .int x4)] [.int y1, .int y0] := by
  rw [c_X9_lay_135] at h
  refine v_iadd hC dX9_lay_135 ?_
  refine v_istore_n (L' := [(0, .ref (G.2.2.1 0)), (1, .int x1), (2, .int x2), (3, .int (y0 + y1)), (4, .int x4)]) hC dX9_lay_136 (by decide) [1, 2, 3, 0, 4] rfl ?_
  refine v_iinc (v := (x4 + 1)) (L' := [(0, .ref (G.2.2.1 0)), (1, .int x1), (2, .int x2), (3, .int (y0 + y1)), (4, .int (x4 + 1))]) hC dX9_lay_137 4 rfl rfl (by decide) [1, 2, 3, 4, 0] rfl ?_
  refine v_goto (tgt := 45) hC dX9_lay_140 (by decide) ?_
  exact hk45 _ _ _ _ _ h
def c_X9_lay_121 (k45 : Int32 → Int32 → Int32 → Int32 → HS → Option (Int32 × HS)) (x1 : Int32) (x3 : Int32) (x4 : Int32) (x5 : Int32) (y0 : Int32) (y1 : Int32) (σ : HS) : Option (Int32 × HS) := (if x5 = (-1) then (c_X9_lay_135 k45 x1 (y0 ||| y1) x4 x3 0 σ) else (c_X9_lay_135 k45 x1 (y0 ||| y1) x4 x3 1 σ))
set_option maxHeartbeats 4000000 in
set_option maxRecDepth 100000 in
theorem w_X9_lay_121 {p : Program} {l : Launch} {e : Env} {s : State} {m : MethodId} {args : Array Value} {below : List Frame} {meth : Method} {c : Code} {A : Nat → Prop} {G : WD}  {r0 : Int32} {τ : HS}  {k45 : Int32 → Int32 → Int32 → Int32 → HS → Option (Int32 × HS)} {x1 : Int32} {x3 : Int32} {x4 : Int32} {x5 : Int32} {y0 : Int32} {y1 : Int32} {σ : HS}  (hG : GX G mY) (hO0 : Ob G mY 0 8) (hC : Cx mE G.1 G.2.1 mY cX9_lay 6 (some .int) RX9 wsX9_lay p s m args meth c A) (hk45 : ∀ (x1 : Int32) (x2 : Int32) (x3 : Int32) (x4 : Int32) (σ : HS), k45 x1 x2 x3 x4 σ = some (r0, τ) → V p l e rmX9_lay s m args below meth c 6 A G mY 0 0 (MQ below (QI G mY A r0 τ) args s 0 0 A) σ 45 [(0, .ref (G.2.2.1 0)), (1, .int x1), (2, .int x2), (3, .int x3), (4, .int x4)] []) (h : c_X9_lay_121 k45 x1 x3 x4 x5 y0 y1 σ = some (r0, τ)) : V p l e rmX9_lay s m args below meth c 6 A G mY 0 0 (MQ below (QI G mY A r0 τ) args s 0 0 A) σ 121 [(0, .ref (G.2.2.1 0)), (1, .int x1), (3, .int x3), (4, .int x4), (5, .int x5)] [.int y1, .int y0] := by
  rw [c_X9_lay_121] at h
  refine v_ior hC dX9_lay_121 ?_
  refine v_istore_n (L' := [(0, .ref (G.2.2.1 0)), (1, .int x1), (2, .int (y0 ||| y1)), (3, .int x3), (4, .int x4), (5, .int x5)]) hC dX9_lay_122 (by decide) [1, 2, 0, 3, 4, 5] rfl ?_
  refine v_iload_n hC dX9_lay_123 3 rfl ?_
  refine v_iload hC dX9_lay_124 5 rfl ?_
  refine v_iconst (v := (-1)) hC dX9_lay_126 (by decide) ?_
  refine v_icmp_ne (tgt := 134) hC dX9_lay_127 (by decide) (fun c_23 => ?_) (fun c_23 => ?_)
  · replace h := ifn c_23 h
    refine v_iconst (v := 1) hC dX9_lay_134 (by decide) ?_
    refine V.sub (L' := [(0, .ref (G.2.2.1 0)), (1, .int x1), (2, .int (y0 ||| y1)), (4, .int x4)]) [0, 1, 2, 4] rfl ?_
    exact w_X9_lay_135 hG (hO0) hC hk45 h
  · replace h := ift c_23 h
    refine v_iconst (v := 0) hC dX9_lay_130 (by decide) ?_
    refine v_goto (tgt := 135) hC dX9_lay_131 (by decide) ?_
    refine V.sub (L' := [(0, .ref (G.2.2.1 0)), (1, .int x1), (2, .int (y0 ||| y1)), (4, .int x4)]) [0, 1, 2, 4] rfl ?_
    exact w_X9_lay_135 hG (hO0) hC hk45 h
def c_X9_lay_106 (k45 : Int32 → Int32 → Int32 → Int32 → HS → Option (Int32 × HS)) (x1 : Int32) (x2 : Int32) (x3 : Int32) (x4 : Int32) (x5 : Int32) (σ : HS) : Option (Int32 × HS) := (if x5 = (-1) then (c_X9_lay_121 k45 x1 x3 x4 x5 x2 0 σ) else (c_X9_lay_121 k45 x1 x3 x4 x5 x2 (1 <<< (x5 &&& 31)) σ))
set_option maxHeartbeats 4000000 in
set_option maxRecDepth 100000 in
theorem w_X9_lay_106 {p : Program} {l : Launch} {e : Env} {s : State} {m : MethodId} {args : Array Value} {below : List Frame} {meth : Method} {c : Code} {A : Nat → Prop} {G : WD}  {r0 : Int32} {τ : HS}  {k45 : Int32 → Int32 → Int32 → Int32 → HS → Option (Int32 × HS)} {x1 : Int32} {x2 : Int32} {x3 : Int32} {x4 : Int32} {x5 : Int32} {σ : HS}  (hG : GX G mY) (hO0 : Ob G mY 0 8) (hC : Cx mE G.1 G.2.1 mY cX9_lay 6 (some .int) RX9 wsX9_lay p s m args meth c A) (hk45 : ∀ (x1 : Int32) (x2 : Int32) (x3 : Int32) (x4 : Int32) (σ : HS), k45 x1 x2 x3 x4 σ = some (r0, τ) → V p l e rmX9_lay s m args below meth c 6 A G mY 0 0 (MQ below (QI G mY A r0 τ) args s 0 0 A) σ 45 [(0, .ref (G.2.2.1 0)), (1, .int x1), (2, .int x2), (3, .int x3), (4, .int x4)] []) (h : c_X9_lay_106 k45 x1 x2 x3 x4 x5 σ = some (r0, τ)) : V p l e rmX9_lay s m args below meth c 6 A G mY 0 0 (MQ below (QI G mY A r0 τ) args s 0 0 A) σ 106 [(0, .ref (G.2.2.1 0)), (1, .int x1), (2, .int x2), (3, .int x3), (4, .int x4), (5, .int x5)] [] := by
  rw [c_X9_lay_106] at h
  refine v_iload_n hC dX9_lay_106 2 rfl ?_
  refine v_iload hC dX9_lay_107 5 rfl ?_
  refine v_iconst (v := (-1)) hC dX9_lay_109 (by decide) ?_
  refine v_icmp_ne (tgt := 117) hC dX9_lay_110 (by decide) (fun c_17 => ?_) (fun c_17 => ?_)
  · replace h := ifn c_17 h
    refine v_iconst (v := 1) hC dX9_lay_117 (by decide) ?_
    refine v_iload hC dX9_lay_118 5 rfl ?_
    refine v_ishl hC dX9_lay_120 ?_
    refine V.sub (L' := [(0, .ref (G.2.2.1 0)), (1, .int x1), (3, .int x3), (4, .int x4), (5, .int x5)]) [0, 1, 3, 4, 5] rfl ?_
    exact w_X9_lay_121 hG (hO0) hC hk45 h
  · replace h := ift c_17 h
    refine v_iconst (v := 0) hC dX9_lay_113 (by decide) ?_
    refine v_goto (tgt := 121) hC dX9_lay_114 (by decide) ?_
    refine V.sub (L' := [(0, .ref (G.2.2.1 0)), (1, .int x1), (3, .int x3), (4, .int x4), (5, .int x5)]) [0, 1, 3, 4, 5] rfl ?_
    exact w_X9_lay_121 hG (hO0) hC hk45 h
def c_X9_lay_146 : Nat → Int32 → Int32 → Int32 → HS → Option (Int32 × HS)
  | 0, _, _, _, _ => none
  | n + 1, x1, x3, x4, σ => (if (gI σ 0 8) ≤ x4 then (some (x3, σ)) else (if inb ((40 * x1) + x4) 160 = true then (if inb x4 12 = true then (lt (sI σ 4 (ix x4) (gI σ 13 (ix ((40 * x1) + x4)))) (fun s21 => (c_X9_lay_146 n x1 x3 (x4 + 1) s21))) else none) else none))
set_option maxHeartbeats 4000000 in
set_option maxRecDepth 100000 in
theorem w_X9_lay_146 {p : Program} {l : Launch} {e : Env} {s : State} {m : MethodId} {args : Array Value} {below : List Frame} {meth : Method} {c : Code} {A : Nat → Prop} {G : WD}  {r0 : Int32} {τ : HS}   (hG : GX G mY) (hO0 : Ob G mY 0 8) (hC : Cx mE G.1 G.2.1 mY cX9_lay 6 (some .int) RX9 wsX9_lay p s m args meth c A)  : ∀ (n : Nat) (x1 : Int32) (x3 : Int32) (x4 : Int32) (σ : HS), c_X9_lay_146 n x1 x3 x4 σ = some (r0, τ) → V p l e rmX9_lay s m args below meth c 6 A G mY 0 0 (MQ below (QI G mY A r0 τ) args s 0 0 A) σ 146 [(0, .ref (G.2.2.1 0)), (1, .int x1), (3, .int x3), (4, .int x4)] [] := by
  intro n
  induction n with
  | zero => intro x1 x3 x4 σ h; exact nof h
  | succ n ih =>
    intro x1 x3 x4 σ h
    rw [c_X9_lay_146] at h
    refine v_iload hC dX9_lay_146 3 rfl ?_
    refine v_aload_n hC dX9_lay_148 0 rfl ?_
    refine v_get (C := RX9) (T := TX9) (N := 45) (ci := 8) (k := 8) (v := .int (gI σ 0 8)) hC hO0 hi_X9_lay_X9 rfl (by decide) (by decide) rfl rfl fl74_X9_lay dX9_lay_149 rfl ?_
    refine v_icmp_ge (tgt := 180) hC dX9_lay_152 (by decide) (fun c_18 => ?_) (fun c_18 => ?_)
    · replace h := ift c_18 h
      refine v_iload_n hC dX9_lay_180 2 rfl ?_
      exact v_iret hC rfl dX9_lay_181 h
    · replace h := ifn c_18 h
      refine v_aload_n hC dX9_lay_155 0 rfl ?_
      refine v_get (C := RX9) (T := TX9) (N := 45) (ci := 8) (k := 7) (v := .ref (G.2.2.1 4)) hC hO0 hi_X9_lay_X9 rfl (by decide) (by decide) rfl rfl fl23_X9_lay dX9_lay_156 rfl ?_
      refine v_iload hC dX9_lay_159 3 rfl ?_
      refine v_aload_n hC dX9_lay_161 0 rfl ?_
      refine v_get (C := RX9) (T := TX9) (N := 45) (ci := 8) (k := 44) (v := .ref (G.2.2.1 13)) hC hO0 hi_X9_lay_X9 rfl (by decide) (by decide) rfl rfl fl52_X9_lay dX9_lay_162 rfl ?_
      refine v_bipush (v := 40) hC dX9_lay_165 (by decide) ?_
      refine v_iload_n hC dX9_lay_167 1 rfl ?_
      refine v_imul hC dX9_lay_168 ?_
      refine v_iload hC dX9_lay_169 3 rfl ?_
      refine v_iadd hC dX9_lay_171 ?_
      obtain ⟨g_19, h⟩ := gd h
      refine v_iald hC (obM_8_44 hG hO0).1 (obM_8_44 hG hO0).2 (t0 := 0) rfl g_19 dX9_lay_172 ?_
      obtain ⟨g_20, h⟩ := gd h
      refine v_iast hC (obM_8_7 hG hO0).1 (obM_8_7 hG hO0).2 (t0 := 0) rfl g_20 dX9_lay_173 ?_
      obtain ⟨s21, e22, h⟩ := ld h
      refine V.eq e22 ?_
      refine v_iinc (v := (x4 + 1)) (L' := [(0, .ref (G.2.2.1 0)), (1, .int x1), (3, .int x3), (4, .int (x4 + 1))]) hC dX9_lay_174 3 rfl rfl (by decide) [1, 2, 3, 0] rfl ?_
      refine v_goto (tgt := 146) hC dX9_lay_177 (by decide) ?_
      exact ih _ _ _ _ h
def c_X9_lay_143 (x1 : Int32) (x3 : Int32) (σ : HS) : Option (Int32 × HS) := (c_X9_lay_146 FU x1 x3 0 σ)
set_option maxHeartbeats 4000000 in
set_option maxRecDepth 100000 in
theorem w_X9_lay_143 {p : Program} {l : Launch} {e : Env} {s : State} {m : MethodId} {args : Array Value} {below : List Frame} {meth : Method} {c : Code} {A : Nat → Prop} {G : WD}  {r0 : Int32} {τ : HS}  {x1 : Int32} {x3 : Int32} {σ : HS}  (hG : GX G mY) (hO0 : Ob G mY 0 8) (hC : Cx mE G.1 G.2.1 mY cX9_lay 6 (some .int) RX9 wsX9_lay p s m args meth c A)  (h : c_X9_lay_143 x1 x3 σ = some (r0, τ)) : V p l e rmX9_lay s m args below meth c 6 A G mY 0 0 (MQ below (QI G mY A r0 τ) args s 0 0 A) σ 143 [(0, .ref (G.2.2.1 0)), (1, .int x1), (3, .int x3)] [] := by
  rw [c_X9_lay_143] at h
  refine v_iconst (v := 0) hC dX9_lay_143 (by decide) ?_
  refine v_istore (L' := [(0, .ref (G.2.2.1 0)), (1, .int x1), (3, .int x3), (4, .int 0)]) hC dX9_lay_144 (by decide) [1, 2, 3, 0] rfl ?_
  exact w_X9_lay_146 hG (hO0) hC FU _ _ _ _ h
def c_X9_lay_45 : Nat → Int32 → Int32 → Int32 → Int32 → HS → Option (Int32 × HS)
  | 0, _, _, _, _, _ => none
  | n + 1, x1, x2, x3, x4, σ => (if (gI σ 0 8) ≤ x4 then (c_X9_lay_143 x1 x3 σ) else (if inb ((40 * x1) + x4) 160 = true then (bi2 (c_X9_in (Int32.toInt64 (gI σ 13 (ix ((40 * x1) + x4)))) (-1) (Int32.toInt64 ((gI σ 0 8) - 1)) σ) (fun r13 s12 => (if r13 = 0 then (some ((-2), s12)) else (if (gI σ 13 (ix ((40 * x1) + x4))) = (-1) then (c_X9_lay_106 (fun z0 z1 z2 z3 z4 => c_X9_lay_45 n z0 z1 z2 z3 z4) x1 x2 x3 x4 (gI σ 13 (ix ((40 * x1) + x4))) s12) else (if ((x2 >>> ((gI σ 13 (ix ((40 * x1) + x4))) &&& 31)) &&& 1) = 1 then (some ((-2), s12)) else (c_X9_lay_106 (fun z0 z1 z2 z3 z4 => c_X9_lay_45 n z0 z1 z2 z3 z4) x1 x2 x3 x4 (gI σ 13 (ix ((40 * x1) + x4))) s12)))))) else none))
set_option maxHeartbeats 4000000 in
set_option maxRecDepth 100000 in
theorem w_X9_lay_45 {p : Program} {l : Launch} {e : Env} {s : State} {m : MethodId} {args : Array Value} {below : List Frame} {meth : Method} {c : Code} {A : Nat → Prop} {G : WD}  {r0 : Int32} {τ : HS}   (hG : GX G mY) (hO0 : Ob G mY 0 8) (hC : Cx mE G.1 G.2.1 mY cX9_lay 6 (some .int) RX9 wsX9_lay p s m args meth c A)  : ∀ (n : Nat) (x1 : Int32) (x2 : Int32) (x3 : Int32) (x4 : Int32) (σ : HS), c_X9_lay_45 n x1 x2 x3 x4 σ = some (r0, τ) → V p l e rmX9_lay s m args below meth c 6 A G mY 0 0 (MQ below (QI G mY A r0 τ) args s 0 0 A) σ 45 [(0, .ref (G.2.2.1 0)), (1, .int x1), (2, .int x2), (3, .int x3), (4, .int x4)] [] := by
  intro n
  induction n with
  | zero => intro x1 x2 x3 x4 σ h; exact nof h
  | succ n ih =>
    intro x1 x2 x3 x4 σ h
    rw [c_X9_lay_45] at h
    refine v_iload hC dX9_lay_45 4 rfl ?_
    refine v_aload_n hC dX9_lay_47 0 rfl ?_
    refine v_get (C := RX9) (T := TX9) (N := 45) (ci := 8) (k := 8) (v := .int (gI σ 0 8)) hC hO0 hi_X9_lay_X9 rfl (by decide) (by decide) rfl rfl fl74_X9_lay dX9_lay_48 rfl ?_
    refine v_icmp_ge (tgt := 143) hC dX9_lay_51 (by decide) (fun c_9 => ?_) (fun c_9 => ?_)
    · replace h := ift c_9 h
      refine V.sub (L' := [(0, .ref (G.2.2.1 0)), (1, .int x1), (3, .int x3)]) [0, 1, 3] rfl ?_
      exact w_X9_lay_143 hG (hO0) hC h
    · replace h := ifn c_9 h
      refine v_aload_n hC dX9_lay_54 0 rfl ?_
      refine v_get (C := RX9) (T := TX9) (N := 45) (ci := 8) (k := 44) (v := .ref (G.2.2.1 13)) hC hO0 hi_X9_lay_X9 rfl (by decide) (by decide) rfl rfl fl52_X9_lay dX9_lay_55 rfl ?_
      refine v_bipush (v := 40) hC dX9_lay_58 (by decide) ?_
      refine v_iload_n hC dX9_lay_60 1 rfl ?_
      refine v_imul hC dX9_lay_61 ?_
      refine v_iload hC dX9_lay_62 4 rfl ?_
      refine v_iadd hC dX9_lay_64 ?_
      obtain ⟨g_10, h⟩ := gd h
      refine v_iald hC (obM_8_44 hG hO0).1 (obM_8_44 hG hO0).2 (t0 := 0) rfl g_10 dX9_lay_65 ?_
      refine v_istore (L' := [(0, .ref (G.2.2.1 0)), (1, .int x1), (2, .int x2), (3, .int x3), (4, .int x4), (5, .int (gI σ 13 (ix ((40 * x1) + x4))))]) hC dX9_lay_66 (by decide) [1, 2, 3, 4, 5, 0] rfl ?_
      refine v_iload hC dX9_lay_68 5 rfl ?_
      refine v_i2l hC dX9_lay_70 ?_
      refine v_ldc2 (v := (-1)) hC lc95_X9_lay dX9_lay_71 ?_
      refine v_aload_n hC dX9_lay_74 0 rfl ?_
      refine v_get (C := RX9) (T := TX9) (N := 45) (ci := 8) (k := 8) (v := .int (gI σ 0 8)) hC hO0 hi_X9_lay_X9 rfl (by decide) (by decide) rfl rfl fl74_X9_lay dX9_lay_75 rfl ?_
      refine v_iconst (v := 1) hC dX9_lay_78 (by decide) ?_
      refine v_isub hC dX9_lay_79 ?_
      refine v_i2l hC dX9_lay_80 ?_
      obtain ⟨r13, s12, hc_11, h⟩ := bd2 h
      refine v_callSI hC mE_ok (n := 3) (As := [.long (Int32.toInt64 (gI σ 13 (ix ((40 * x1) + x4)))), .long (-1), .long (Int32.toInt64 ((gI σ 0 8) - 1))]) (k_X9_in l hG hc_11) (va_cwS 3 hC.1.2.2.2.2 gX9_lay_X9_in rfl rfl rfl (by decide +kernel) ⟨(Nat.le_of_ble_eq_true rfl), (Nat.le_of_ble_eq_true rfl)⟩) rfl (Nat.le_of_ble_eq_true rfl) ⟨Nat.zero_le _, Nat.zero_le _⟩ dX9_lay_81 rfl ?_
      refine v_if_eq (tgt := 103) hC dX9_lay_84 (by decide) (fun c_14 => ?_) (fun c_14 => ?_)
      · replace h := ift c_14 h
        refine v_bipush (v := (-2)) hC dX9_lay_103 (by decide) ?_
        exact v_iret hC rfl dX9_lay_105 h
      · replace h := ifn c_14 h
        refine v_iload hC dX9_lay_87 5 rfl ?_
        refine v_iconst (v := (-1)) hC dX9_lay_89 (by decide) ?_
        refine v_icmp_eq (tgt := 106) hC dX9_lay_90 (by decide) (fun c_15 => ?_) (fun c_15 => ?_)
        · replace h := ift c_15 h
          exact w_X9_lay_106 hG (hO0) hC (fun _ _ _ _ _ h => ih _ _ _ _ _ h) h
        · replace h := ifn c_15 h
          refine v_iload_n hC dX9_lay_93 2 rfl ?_
          refine v_iload hC dX9_lay_94 5 rfl ?_
          refine v_ishr hC dX9_lay_96 ?_
          refine v_iconst (v := 1) hC dX9_lay_97 (by decide) ?_
          refine v_iand hC dX9_lay_98 ?_
          refine v_iconst (v := 1) hC dX9_lay_99 (by decide) ?_
          refine v_icmp_ne (tgt := 106) hC dX9_lay_100 (by decide) (fun c_16 => ?_) (fun c_16 => ?_)
          · replace h := ifn c_16 h
            exact w_X9_lay_106 hG (hO0) hC (fun _ _ _ _ _ h => ih _ _ _ _ _ h) h
          · replace h := ift c_16 h
            refine v_bipush (v := (-2)) hC dX9_lay_103 (by decide) ?_
            exact v_iret hC rfl dX9_lay_105 h
def c_X9_lay (p1 : Int32) (σ : HS) : Option (Int32 × HS) := (bi2 (c_X9_isSheet p1 σ) (fun r3 s2 => (if r3 = 0 then (some ((-2), s2)) else (if inb p1 4 = true then (if (gI s2 10 (ix p1)) = 0 then (some ((-11), s2)) else (if inb p1 4 = true then (if (gI s2 12 (ix p1)) = (gI s2 0 8) then (c_X9_lay_45 FU p1 0 0 0 s2) else (some ((-2), s2))) else none)) else none))))
set_option maxHeartbeats 4000000 in
set_option maxRecDepth 100000 in
theorem w_X9_lay {p : Program} {l : Launch} {e : Env} {s : State} {m : MethodId} {args : Array Value} {below : List Frame} {meth : Method} {c : Code} {A : Nat → Prop} {G : WD}  {r0 : Int32} {τ : HS} {p1 : Int32} {σ : HS}  (hG : GX G mY) (hO0 : Ob G mY 0 8) (hC : Cx mE G.1 G.2.1 mY cX9_lay 6 (some .int) RX9 wsX9_lay p s m args meth c A) (h : c_X9_lay p1 σ = some (r0, τ)) : V p l e rmX9_lay s m args below meth c 6 A G mY 0 0 (MQ below (QI G mY A r0 τ) args s 0 0 A) σ 0 [(0, .ref (G.2.2.1 0)), (1, .int p1)] [] := by
  rw [c_X9_lay] at h
  refine v_iload_n hC dX9_lay_0 1 rfl ?_
  obtain ⟨r3, s2, hc_1, h⟩ := bd2 h
  refine v_callSI hC mE_ok (n := 1) (As := [.int p1]) (k_X9_isSheet l hG hc_1) (va_cwS 1 hC.1.2.2.2.2 gX9_lay_X9_isSheet rfl rfl rfl (by decide +kernel) ⟨(Nat.le_of_ble_eq_true rfl), (Nat.le_of_ble_eq_true rfl)⟩) rfl (Nat.le_of_ble_eq_true rfl) ⟨Nat.zero_le _, Nat.zero_le _⟩ dX9_lay_1 rfl ?_
  refine v_if_ne (tgt := 10) hC dX9_lay_4 (by decide) (fun c_4 => ?_) (fun c_4 => ?_)
  · replace h := ifn c_4 h
    refine v_aload_n hC dX9_lay_10 0 rfl ?_
    refine v_get (C := RX9) (T := TX9) (N := 45) (ci := 8) (k := 41) (v := .ref (G.2.2.1 10)) hC hO0 hi_X9_lay_X9 rfl (by decide) (by decide) rfl rfl fl42_X9_lay dX9_lay_11 rfl ?_
    refine v_iload_n hC dX9_lay_14 1 rfl ?_
    obtain ⟨g_5, h⟩ := gd h
    refine v_zald hC (obM_8_41 hG hO0).1 (obM_8_41 hG hO0).2 (t0 := 2) rfl g_5 dX9_lay_15 ?_
    refine v_if_ne (tgt := 22) hC dX9_lay_16 (by decide) (fun c_6 => ?_) (fun c_6 => ?_)
    · replace h := ifn c_6 h
      refine v_aload_n hC dX9_lay_22 0 rfl ?_
      refine v_get (C := RX9) (T := TX9) (N := 45) (ci := 8) (k := 43) (v := .ref (G.2.2.1 12)) hC hO0 hi_X9_lay_X9 rfl (by decide) (by decide) rfl rfl fl49_X9_lay dX9_lay_23 rfl ?_
      refine v_iload_n hC dX9_lay_26 1 rfl ?_
      obtain ⟨g_7, h⟩ := gd h
      refine v_iald hC (obM_8_43 hG hO0).1 (obM_8_43 hG hO0).2 (t0 := 0) rfl g_7 dX9_lay_27 ?_
      refine v_aload_n hC dX9_lay_28 0 rfl ?_
      refine v_get (C := RX9) (T := TX9) (N := 45) (ci := 8) (k := 8) (v := .int (gI s2 0 8)) hC hO0 hi_X9_lay_X9 rfl (by decide) (by decide) rfl rfl fl74_X9_lay dX9_lay_29 rfl ?_
      refine v_icmp_eq (tgt := 38) hC dX9_lay_32 (by decide) (fun c_8 => ?_) (fun c_8 => ?_)
      · replace h := ift c_8 h
        refine v_iconst (v := 0) hC dX9_lay_38 (by decide) ?_
        refine v_istore_n (L' := [(0, .ref (G.2.2.1 0)), (1, .int p1), (2, .int 0)]) hC dX9_lay_39 (by decide) [1, 2, 0] rfl ?_
        refine v_iconst (v := 0) hC dX9_lay_40 (by decide) ?_
        refine v_istore_n (L' := [(0, .ref (G.2.2.1 0)), (1, .int p1), (2, .int 0), (3, .int 0)]) hC dX9_lay_41 (by decide) [1, 2, 3, 0] rfl ?_
        refine v_iconst (v := 0) hC dX9_lay_42 (by decide) ?_
        refine v_istore (L' := [(0, .ref (G.2.2.1 0)), (1, .int p1), (2, .int 0), (3, .int 0), (4, .int 0)]) hC dX9_lay_43 (by decide) [1, 2, 3, 4, 0] rfl ?_
        exact w_X9_lay_45 hG (hO0) hC FU _ _ _ _ _ h
      · replace h := ifn c_8 h
        refine v_bipush (v := (-2)) hC dX9_lay_35 (by decide) ?_
        exact v_iret hC rfl dX9_lay_37 h
    · replace h := ift c_6 h
      refine v_bipush (v := (-11)) hC dX9_lay_19 (by decide) ?_
      exact v_iret hC rfl dX9_lay_21 h
  · replace h := ift c_4 h
    refine v_bipush (v := (-2)) hC dX9_lay_7 (by decide) ?_
    exact v_iret hC rfl dX9_lay_9 h
theorem k_X9_lay (l : Launch) {G : WD}   {r0 : Int32} {τ : HS} {p1 : Int32} {σ : HS}  (hG : GX G mY) (hO0 : Ob G mY 0 8) (h : c_X9_lay p1 σ = some (r0, τ)) : MI mE l yX9_lay wsX9_lay rmX9_lay G mY [.ref (G.2.2.1 0), .int p1] σ r0 τ :=
  MI.of RX9 (by decide) rfl rfl (Nat.le_of_ble_eq_true rfl) rfl rfl (fun p e s m below meth c hC => w_X9_lay  hG hO0 hC h)
abbrev rmX9_changes : Room := { frames := 0, cells := 0, slots := 0, locals := 0 }
def c_X9_changes (p1 : Int32) (p2 : Int32) (σ : HS) : Option HS := (if inb p1 12 = true then (if inb p2 12 = true then (if inb p1 12 = true then (lt (sI σ 4 (ix p1) (gI σ 4 (ix p2))) (fun s4 => (if inb p2 12 = true then (lt (sI s4 4 (ix p2) (gI σ 4 (ix p1))) (fun s7 => (some s7))) else none))) else none) else none) else none)
set_option maxHeartbeats 4000000 in
set_option maxRecDepth 100000 in
theorem w_X9_changes {p : Program} {l : Launch} {e : Env} {s : State} {m : MethodId} {args : Array Value} {below : List Frame} {meth : Method} {c : Code} {A : Nat → Prop} {G : WD}  {τ : HS} {p1 : Int32} {p2 : Int32} {σ : HS}  (hG : GX G mY) (hO0 : Ob G mY 0 8) (hC : Cx mE G.1 G.2.1 mY cX9_changes 4 none RX9 wsX9_changes p s m args meth c A) (h : c_X9_changes p1 p2 σ = some τ) : V p l e rmX9_changes s m args below meth c 4 A G mY 0 0 (MQ below (QV G mY A τ) args s 0 0 A) σ 0 [(0, .ref (G.2.2.1 0)), (1, .int p1), (2, .int p2)] [] := by
  rw [c_X9_changes] at h
  refine v_aload_n hC dX9_changes_0 0 rfl ?_
  refine v_get (C := RX9) (T := TX9) (N := 45) (ci := 8) (k := 7) (v := .ref (G.2.2.1 4)) hC hO0 hi_X9_changes_X9 rfl (by decide) (by decide) rfl rfl fl23_X9_changes dX9_changes_1 rfl ?_
  refine v_iload_n hC dX9_changes_4 1 rfl ?_
  obtain ⟨g_1, h⟩ := gd h
  refine v_iald hC (obM_8_7 hG hO0).1 (obM_8_7 hG hO0).2 (t0 := 0) rfl g_1 dX9_changes_5 ?_
  refine v_istore_n (L' := [(0, .ref (G.2.2.1 0)), (1, .int p1), (2, .int p2), (3, .int (gI σ 4 (ix p1)))]) hC dX9_changes_6 (by decide) [1, 2, 3, 0] rfl ?_
  refine v_aload_n hC dX9_changes_7 0 rfl ?_
  refine v_get (C := RX9) (T := TX9) (N := 45) (ci := 8) (k := 7) (v := .ref (G.2.2.1 4)) hC hO0 hi_X9_changes_X9 rfl (by decide) (by decide) rfl rfl fl23_X9_changes dX9_changes_8 rfl ?_
  refine v_iload_n hC dX9_changes_11 1 rfl ?_
  refine v_aload_n hC dX9_changes_12 0 rfl ?_
  refine v_get (C := RX9) (T := TX9) (N := 45) (ci := 8) (k := 7) (v := .ref (G.2.2.1 4)) hC hO0 hi_X9_changes_X9 rfl (by decide) (by decide) rfl rfl fl23_X9_changes dX9_changes_13 rfl ?_
  refine v_iload_n hC dX9_changes_16 2 rfl ?_
  obtain ⟨g_2, h⟩ := gd h
  refine v_iald hC (obM_8_7 hG hO0).1 (obM_8_7 hG hO0).2 (t0 := 0) rfl g_2 dX9_changes_17 ?_
  obtain ⟨g_3, h⟩ := gd h
  refine v_iast hC (obM_8_7 hG hO0).1 (obM_8_7 hG hO0).2 (t0 := 0) rfl g_3 dX9_changes_18 ?_
  obtain ⟨s4, e5, h⟩ := ld h
  refine V.eq e5 ?_
  refine v_aload_n hC dX9_changes_19 0 rfl ?_
  refine v_get (C := RX9) (T := TX9) (N := 45) (ci := 8) (k := 7) (v := .ref (G.2.2.1 4)) hC hO0 hi_X9_changes_X9 rfl (by decide) (by decide) rfl rfl fl23_X9_changes dX9_changes_20 rfl ?_
  refine v_iload_n hC dX9_changes_23 2 rfl ?_
  refine v_iload_n hC dX9_changes_24 3 rfl ?_
  obtain ⟨g_6, h⟩ := gd h
  refine v_iast hC (obM_8_7 hG hO0).1 (obM_8_7 hG hO0).2 (t0 := 0) rfl g_6 dX9_changes_25 ?_
  obtain ⟨s7, e8, h⟩ := ld h
  refine V.eq e8 ?_
  exact v_vret hC rfl dX9_changes_26 h
theorem k_X9_changes (l : Launch) {G : WD}   {τ : HS} {p1 : Int32} {p2 : Int32} {σ : HS}  (hG : GX G mY) (hO0 : Ob G mY 0 8) (h : c_X9_changes p1 p2 σ = some τ) : MV mE l yX9_changes wsX9_changes rmX9_changes G mY [.ref (G.2.2.1 0), .int p1, .int p2] σ τ :=
  MV.of RX9 (by decide) rfl rfl (Nat.le_of_ble_eq_true rfl) rfl rfl (fun p e s m below meth c hC => w_X9_changes  hG hO0 hC h)
abbrev rmX9_swap : Room := { frames := 2, cells := 0, slots := 0, locals := 46 }
def c_X9_swap (p1 : Int32) (p2 : Int32) (σ : HS) : Option (Int32 × HS) := (bi2 (c_X9_isBox p1 σ) (fun r3 s2 => (if r3 = 0 then (some ((-2), s2)) else (bi2 (c_X9_isBox p2 s2) (fun r7 s6 => (if r7 = 0 then (some ((-2), s6)) else (if p1 = p2 then (some ((-2), s6)) else (bi1 (c_X9_changes p1 p2 s6) (fun s11 => (some (1, s11)))))))))))
set_option maxHeartbeats 4000000 in
set_option maxRecDepth 100000 in
theorem w_X9_swap {p : Program} {l : Launch} {e : Env} {s : State} {m : MethodId} {args : Array Value} {below : List Frame} {meth : Method} {c : Code} {A : Nat → Prop} {G : WD}  {r0 : Int32} {τ : HS} {p1 : Int32} {p2 : Int32} {σ : HS}  (hG : GX G mY) (hO0 : Ob G mY 0 8) (hC : Cx mE G.1 G.2.1 mY cX9_swap 3 (some .int) RX9 wsX9_swap p s m args meth c A) (h : c_X9_swap p1 p2 σ = some (r0, τ)) : V p l e rmX9_swap s m args below meth c 3 A G mY 0 0 (MQ below (QI G mY A r0 τ) args s 0 0 A) σ 0 [(0, .ref (G.2.2.1 0)), (1, .int p1), (2, .int p2)] [] := by
  rw [c_X9_swap] at h
  refine v_aload_n hC dX9_swap_0 0 rfl ?_
  refine v_iload_n hC dX9_swap_1 1 rfl ?_
  obtain ⟨r3, s2, hc_1, h⟩ := bd2 h
  refine v_callVI hC mE_ok (n := 1) (As := [.int p1]) (k_X9_isBox l hG (hO0) hc_1) (cwV 1 hC.1.2.2.2.2 gX9_swap_X9_isBox rfl rfl rfl (by decide +kernel) ⟨(Nat.le_of_ble_eq_true rfl), (Nat.le_of_ble_eq_true rfl)⟩) hO0 (by decide) rfl rfl rfl (Nat.le_of_ble_eq_true rfl) ⟨Nat.zero_le _, Nat.zero_le _⟩ dX9_swap_2 rfl ?_
  refine v_if_eq (tgt := 21) hC dX9_swap_5 (by decide) (fun c_4 => ?_) (fun c_4 => ?_)
  · replace h := ift c_4 h
    refine v_bipush (v := (-2)) hC dX9_swap_21 (by decide) ?_
    exact v_iret hC rfl dX9_swap_23 h
  · replace h := ifn c_4 h
    refine v_aload_n hC dX9_swap_8 0 rfl ?_
    refine v_iload_n hC dX9_swap_9 2 rfl ?_
    obtain ⟨r7, s6, hc_5, h⟩ := bd2 h
    refine v_callVI hC mE_ok (n := 1) (As := [.int p2]) (k_X9_isBox l hG (hO0) hc_5) (cwV 1 hC.1.2.2.2.2 gX9_swap_X9_isBox rfl rfl rfl (by decide +kernel) ⟨(Nat.le_of_ble_eq_true rfl), (Nat.le_of_ble_eq_true rfl)⟩) hO0 (by decide) rfl rfl rfl (Nat.le_of_ble_eq_true rfl) ⟨Nat.zero_le _, Nat.zero_le _⟩ dX9_swap_10 rfl ?_
    refine v_if_eq (tgt := 21) hC dX9_swap_13 (by decide) (fun c_8 => ?_) (fun c_8 => ?_)
    · replace h := ift c_8 h
      refine v_bipush (v := (-2)) hC dX9_swap_21 (by decide) ?_
      exact v_iret hC rfl dX9_swap_23 h
    · replace h := ifn c_8 h
      refine v_iload_n hC dX9_swap_16 1 rfl ?_
      refine v_iload_n hC dX9_swap_17 2 rfl ?_
      refine v_icmp_ne (tgt := 24) hC dX9_swap_18 (by decide) (fun c_9 => ?_) (fun c_9 => ?_)
      · replace h := ifn c_9 h
        refine v_aload_n hC dX9_swap_24 0 rfl ?_
        refine v_iload_n hC dX9_swap_25 1 rfl ?_
        refine v_iload_n hC dX9_swap_26 2 rfl ?_
        obtain ⟨s11, hc_10, h⟩ := bd1 h
        refine v_callVV hC mE_ok (n := 2) (As := [.int p1, .int p2]) (k_X9_changes l hG (hO0) hc_10) (cwV 2 hC.1.2.2.2.2 gX9_swap_X9_changes rfl rfl rfl (by decide +kernel) ⟨(Nat.le_of_ble_eq_true rfl), (Nat.le_of_ble_eq_true rfl)⟩) hO0 (by decide) rfl rfl rfl (Nat.le_of_ble_eq_true rfl) ⟨Nat.zero_le _, Nat.zero_le _⟩ dX9_swap_27 rfl ?_
        refine v_iconst (v := 1) hC dX9_swap_30 (by decide) ?_
        exact v_iret hC rfl dX9_swap_31 h
      · replace h := ift c_9 h
        refine v_bipush (v := (-2)) hC dX9_swap_21 (by decide) ?_
        exact v_iret hC rfl dX9_swap_23 h
theorem k_X9_swap (l : Launch) {G : WD}   {r0 : Int32} {τ : HS} {p1 : Int32} {p2 : Int32} {σ : HS}  (hG : GX G mY) (hO0 : Ob G mY 0 8) (h : c_X9_swap p1 p2 σ = some (r0, τ)) : MI mE l yX9_swap wsX9_swap rmX9_swap G mY [.ref (G.2.2.1 0), .int p1, .int p2] σ r0 τ :=
  MI.of RX9 (by decide) rfl rfl (Nat.le_of_ble_eq_true rfl) rfl rfl (fun p e s m below meth c hC => w_X9_swap  hG hO0 hC h)
abbrev rmX9_empty : Room := { frames := 2, cells := 0, slots := 0, locals := 46 }
def c_X9_empty (p1 : Int32) (σ : HS) : Option (Int32 × HS) := (bi2 (c_X9_isBox p1 σ) (fun r3 s2 => (if r3 = 0 then (some ((-2), s2)) else (if inb p1 12 = true then (if (gI s2 4 (ix p1)) = (-1) then (some ((-3), s2)) else (if inb p1 12 = true then (if inb p1 12 = true then (lt (sI s2 4 (ix p1) (-1)) (fun s9 => (some ((gI s2 4 (ix p1)), s9)))) else none) else none)) else none))))
set_option maxHeartbeats 4000000 in
set_option maxRecDepth 100000 in
theorem w_X9_empty {p : Program} {l : Launch} {e : Env} {s : State} {m : MethodId} {args : Array Value} {below : List Frame} {meth : Method} {c : Code} {A : Nat → Prop} {G : WD}  {r0 : Int32} {τ : HS} {p1 : Int32} {σ : HS}  (hG : GX G mY) (hO0 : Ob G mY 0 8) (hC : Cx mE G.1 G.2.1 mY cX9_empty 3 (some .int) RX9 wsX9_empty p s m args meth c A) (h : c_X9_empty p1 σ = some (r0, τ)) : V p l e rmX9_empty s m args below meth c 3 A G mY 0 0 (MQ below (QI G mY A r0 τ) args s 0 0 A) σ 0 [(0, .ref (G.2.2.1 0)), (1, .int p1)] [] := by
  rw [c_X9_empty] at h
  refine v_aload_n hC dX9_empty_0 0 rfl ?_
  refine v_iload_n hC dX9_empty_1 1 rfl ?_
  obtain ⟨r3, s2, hc_1, h⟩ := bd2 h
  refine v_callVI hC mE_ok (n := 1) (As := [.int p1]) (k_X9_isBox l hG (hO0) hc_1) (cwV 1 hC.1.2.2.2.2 gX9_empty_X9_isBox rfl rfl rfl (by decide +kernel) ⟨(Nat.le_of_ble_eq_true rfl), (Nat.le_of_ble_eq_true rfl)⟩) hO0 (by decide) rfl rfl rfl (Nat.le_of_ble_eq_true rfl) ⟨Nat.zero_le _, Nat.zero_le _⟩ dX9_empty_2 rfl ?_
  refine v_if_ne (tgt := 11) hC dX9_empty_5 (by decide) (fun c_4 => ?_) (fun c_4 => ?_)
  · replace h := ifn c_4 h
    refine v_aload_n hC dX9_empty_11 0 rfl ?_
    refine v_get (C := RX9) (T := TX9) (N := 45) (ci := 8) (k := 7) (v := .ref (G.2.2.1 4)) hC hO0 hi_X9_empty_X9 rfl (by decide) (by decide) rfl rfl fl23_X9_empty dX9_empty_12 rfl ?_
    refine v_iload_n hC dX9_empty_15 1 rfl ?_
    obtain ⟨g_5, h⟩ := gd h
    refine v_iald hC (obM_8_7 hG hO0).1 (obM_8_7 hG hO0).2 (t0 := 0) rfl g_5 dX9_empty_16 ?_
    refine v_iconst (v := (-1)) hC dX9_empty_17 (by decide) ?_
    refine v_icmp_ne (tgt := 24) hC dX9_empty_18 (by decide) (fun c_6 => ?_) (fun c_6 => ?_)
    · replace h := ifn c_6 h
      refine v_aload_n hC dX9_empty_24 0 rfl ?_
      refine v_get (C := RX9) (T := TX9) (N := 45) (ci := 8) (k := 7) (v := .ref (G.2.2.1 4)) hC hO0 hi_X9_empty_X9 rfl (by decide) (by decide) rfl rfl fl23_X9_empty dX9_empty_25 rfl ?_
      refine v_iload_n hC dX9_empty_28 1 rfl ?_
      obtain ⟨g_7, h⟩ := gd h
      refine v_iald hC (obM_8_7 hG hO0).1 (obM_8_7 hG hO0).2 (t0 := 0) rfl g_7 dX9_empty_29 ?_
      refine v_istore_n (L' := [(0, .ref (G.2.2.1 0)), (1, .int p1), (2, .int (gI s2 4 (ix p1)))]) hC dX9_empty_30 (by decide) [1, 2, 0] rfl ?_
      refine v_aload_n hC dX9_empty_31 0 rfl ?_
      refine v_get (C := RX9) (T := TX9) (N := 45) (ci := 8) (k := 7) (v := .ref (G.2.2.1 4)) hC hO0 hi_X9_empty_X9 rfl (by decide) (by decide) rfl rfl fl23_X9_empty dX9_empty_32 rfl ?_
      refine v_iload_n hC dX9_empty_35 1 rfl ?_
      refine v_iconst (v := (-1)) hC dX9_empty_36 (by decide) ?_
      obtain ⟨g_8, h⟩ := gd h
      refine v_iast hC (obM_8_7 hG hO0).1 (obM_8_7 hG hO0).2 (t0 := 0) rfl g_8 dX9_empty_37 ?_
      obtain ⟨s9, e10, h⟩ := ld h
      refine V.eq e10 ?_
      refine v_iload_n hC dX9_empty_38 2 rfl ?_
      exact v_iret hC rfl dX9_empty_39 h
    · replace h := ift c_6 h
      refine v_bipush (v := (-3)) hC dX9_empty_21 (by decide) ?_
      exact v_iret hC rfl dX9_empty_23 h
  · replace h := ift c_4 h
    refine v_bipush (v := (-2)) hC dX9_empty_8 (by decide) ?_
    exact v_iret hC rfl dX9_empty_10 h
theorem k_X9_empty (l : Launch) {G : WD}   {r0 : Int32} {τ : HS} {p1 : Int32} {σ : HS}  (hG : GX G mY) (hO0 : Ob G mY 0 8) (h : c_X9_empty p1 σ = some (r0, τ)) : MI mE l yX9_empty wsX9_empty rmX9_empty G mY [.ref (G.2.2.1 0), .int p1] σ r0 τ :=
  MI.of RX9 (by decide) rfl rfl (Nat.le_of_ble_eq_true rfl) rfl rfl (fun p e s m below meth c hC => w_X9_empty  hG hO0 hC h)
abbrev rmX9_ringOf : Room := { frames := 0, cells := 0, slots := 0, locals := 0 }
def c_X9_ringOf_40 (x1 : Int32) (x2 : Int32) (x3 : Int32) (σ : HS) : Option (Int32 × HS) := (if x2 = x1 then (some (x3, σ)) else (some (0, σ)))
set_option maxHeartbeats 4000000 in
set_option maxRecDepth 100000 in
theorem w_X9_ringOf_40 {p : Program} {l : Launch} {e : Env} {s : State} {m : MethodId} {args : Array Value} {below : List Frame} {meth : Method} {c : Code} {A : Nat → Prop} {G : WD}  {r0 : Int32} {τ : HS}  {x1 : Int32} {x2 : Int32} {x3 : Int32} {σ : HS}  (hG : GX G mY)  (hC : Cx mE G.1 G.2.1 mY cX9_ringOf 4 (some .int) RX9 wsX9_ringOf p s m args meth c A)  (h : c_X9_ringOf_40 x1 x2 x3 σ = some (r0, τ)) : V p l e rmX9_ringOf s m args below meth c 4 A G mY 0 0 (MQ below (QI G mY A r0 τ) args s 0 0 A) σ 40 [(1, .int x1), (2, .int x2), (3, .int x3)] [] := by
  rw [c_X9_ringOf_40] at h
  refine v_iload_n hC dX9_ringOf_40 1 rfl ?_
  refine v_iload_n hC dX9_ringOf_41 0 rfl ?_
  refine v_icmp_ne (tgt := 49) hC dX9_ringOf_42 (by decide) (fun c_6 => ?_) (fun c_6 => ?_)
  · replace h := ifn c_6 h
    refine v_iconst (v := 0) hC dX9_ringOf_49 (by decide) ?_
    exact v_iret hC rfl dX9_ringOf_50 h
  · replace h := ift c_6 h
    refine v_iload_n hC dX9_ringOf_45 2 rfl ?_
    refine v_goto (tgt := 50) hC dX9_ringOf_46 (by decide) ?_
    exact v_iret hC rfl dX9_ringOf_50 h
def c_X9_ringOf_9 : Nat → Int32 → Int32 → Int32 → HS → Option (Int32 × HS)
  | 0, _, _, _, _ => none
  | n + 1, x1, x2, x3, σ => (if x2 = (-1) then (c_X9_ringOf_40 x1 x2 x3 σ) else (if x2 = x1 then (c_X9_ringOf_40 x1 x2 x3 σ) else (if (gI σ 0 8) < x3 then (c_X9_ringOf_40 x1 x2 x3 σ) else (if inb x2 12 = true then (c_X9_ringOf_9 n x1 (gI σ 4 (ix x2)) (x3 + 1) σ) else none))))
set_option maxHeartbeats 4000000 in
set_option maxRecDepth 100000 in
theorem w_X9_ringOf_9 {p : Program} {l : Launch} {e : Env} {s : State} {m : MethodId} {args : Array Value} {below : List Frame} {meth : Method} {c : Code} {A : Nat → Prop} {G : WD}  {r0 : Int32} {τ : HS}   (hG : GX G mY) (hO0 : Ob G mY 0 8) (hC : Cx mE G.1 G.2.1 mY cX9_ringOf 4 (some .int) RX9 wsX9_ringOf p s m args meth c A)  : ∀ (n : Nat) (x1 : Int32) (x2 : Int32) (x3 : Int32) (σ : HS), c_X9_ringOf_9 n x1 x2 x3 σ = some (r0, τ) → V p l e rmX9_ringOf s m args below meth c 4 A G mY 0 0 (MQ below (QI G mY A r0 τ) args s 0 0 A) σ 9 [(0, .ref (G.2.2.1 0)), (1, .int x1), (2, .int x2), (3, .int x3)] [] := by
  intro n
  induction n with
  | zero => intro x1 x2 x3 σ h; exact nof h
  | succ n ih =>
    intro x1 x2 x3 σ h
    rw [c_X9_ringOf_9] at h
    refine v_iload_n hC dX9_ringOf_9 2 rfl ?_
    refine v_iconst (v := (-1)) hC dX9_ringOf_10 (by decide) ?_
    refine v_icmp_eq (tgt := 40) hC dX9_ringOf_11 (by decide) (fun c_2 => ?_) (fun c_2 => ?_)
    · replace h := ift c_2 h
      refine V.sub (L' := [(1, .int x1), (2, .int x2), (3, .int x3)]) [1, 2, 3] rfl ?_
      exact w_X9_ringOf_40 hG hC h
    · replace h := ifn c_2 h
      refine v_iload_n hC dX9_ringOf_14 2 rfl ?_
      refine v_iload_n hC dX9_ringOf_15 1 rfl ?_
      refine v_icmp_eq (tgt := 40) hC dX9_ringOf_16 (by decide) (fun c_3 => ?_) (fun c_3 => ?_)
      · replace h := ift c_3 h
        refine V.sub (L' := [(1, .int x1), (2, .int x2), (3, .int x3)]) [1, 2, 3] rfl ?_
        exact w_X9_ringOf_40 hG hC h
      · replace h := ifn c_3 h
        refine v_iload_n hC dX9_ringOf_19 3 rfl ?_
        refine v_aload_n hC dX9_ringOf_20 0 rfl ?_
        refine v_get (C := RX9) (T := TX9) (N := 45) (ci := 8) (k := 8) (v := .int (gI σ 0 8)) hC hO0 hi_X9_ringOf_X9 rfl (by decide) (by decide) rfl rfl fl74_X9_ringOf dX9_ringOf_21 rfl ?_
        refine v_icmp_gt (tgt := 40) hC dX9_ringOf_24 (by decide) (fun c_4 => ?_) (fun c_4 => ?_)
        · replace h := ift c_4 h
          refine V.sub (L' := [(1, .int x1), (2, .int x2), (3, .int x3)]) [1, 2, 3] rfl ?_
          exact w_X9_ringOf_40 hG hC h
        · replace h := ifn c_4 h
          refine v_aload_n hC dX9_ringOf_27 0 rfl ?_
          refine v_get (C := RX9) (T := TX9) (N := 45) (ci := 8) (k := 7) (v := .ref (G.2.2.1 4)) hC hO0 hi_X9_ringOf_X9 rfl (by decide) (by decide) rfl rfl fl23_X9_ringOf dX9_ringOf_28 rfl ?_
          refine v_iload_n hC dX9_ringOf_31 2 rfl ?_
          obtain ⟨g_5, h⟩ := gd h
          refine v_iald hC (obM_8_7 hG hO0).1 (obM_8_7 hG hO0).2 (t0 := 0) rfl g_5 dX9_ringOf_32 ?_
          refine v_istore_n (L' := [(0, .ref (G.2.2.1 0)), (1, .int x1), (2, .int (gI σ 4 (ix x2))), (3, .int x3)]) hC dX9_ringOf_33 (by decide) [1, 2, 0, 3] rfl ?_
          refine v_iinc (v := (x3 + 1)) (L' := [(0, .ref (G.2.2.1 0)), (1, .int x1), (2, .int (gI σ 4 (ix x2))), (3, .int (x3 + 1))]) hC dX9_ringOf_34 3 rfl rfl (by decide) [1, 2, 3, 0] rfl ?_
          refine v_goto (tgt := 9) hC dX9_ringOf_37 (by decide) ?_
          exact ih _ _ _ _ h
def c_X9_ringOf (p1 : Int32) (σ : HS) : Option (Int32 × HS) := (if inb p1 12 = true then (c_X9_ringOf_9 FU p1 (gI σ 4 (ix p1)) 1 σ) else none)
set_option maxHeartbeats 4000000 in
set_option maxRecDepth 100000 in
theorem w_X9_ringOf {p : Program} {l : Launch} {e : Env} {s : State} {m : MethodId} {args : Array Value} {below : List Frame} {meth : Method} {c : Code} {A : Nat → Prop} {G : WD}  {r0 : Int32} {τ : HS} {p1 : Int32} {σ : HS}  (hG : GX G mY) (hO0 : Ob G mY 0 8) (hC : Cx mE G.1 G.2.1 mY cX9_ringOf 4 (some .int) RX9 wsX9_ringOf p s m args meth c A) (h : c_X9_ringOf p1 σ = some (r0, τ)) : V p l e rmX9_ringOf s m args below meth c 4 A G mY 0 0 (MQ below (QI G mY A r0 τ) args s 0 0 A) σ 0 [(0, .ref (G.2.2.1 0)), (1, .int p1)] [] := by
  rw [c_X9_ringOf] at h
  refine v_aload_n hC dX9_ringOf_0 0 rfl ?_
  refine v_get (C := RX9) (T := TX9) (N := 45) (ci := 8) (k := 7) (v := .ref (G.2.2.1 4)) hC hO0 hi_X9_ringOf_X9 rfl (by decide) (by decide) rfl rfl fl23_X9_ringOf dX9_ringOf_1 rfl ?_
  refine v_iload_n hC dX9_ringOf_4 1 rfl ?_
  obtain ⟨g_1, h⟩ := gd h
  refine v_iald hC (obM_8_7 hG hO0).1 (obM_8_7 hG hO0).2 (t0 := 0) rfl g_1 dX9_ringOf_5 ?_
  refine v_istore_n (L' := [(0, .ref (G.2.2.1 0)), (1, .int p1), (2, .int (gI σ 4 (ix p1)))]) hC dX9_ringOf_6 (by decide) [1, 2, 0] rfl ?_
  refine v_iconst (v := 1) hC dX9_ringOf_7 (by decide) ?_
  refine v_istore_n (L' := [(0, .ref (G.2.2.1 0)), (1, .int p1), (2, .int (gI σ 4 (ix p1))), (3, .int 1)]) hC dX9_ringOf_8 (by decide) [1, 2, 3, 0] rfl ?_
  exact w_X9_ringOf_9 hG (hO0) hC FU _ _ _ _ h
theorem k_X9_ringOf (l : Launch) {G : WD}   {r0 : Int32} {τ : HS} {p1 : Int32} {σ : HS}  (hG : GX G mY) (hO0 : Ob G mY 0 8) (h : c_X9_ringOf p1 σ = some (r0, τ)) : MI mE l yX9_ringOf wsX9_ringOf rmX9_ringOf G mY [.ref (G.2.2.1 0), .int p1] σ r0 τ :=
  MI.of RX9 (by decide) rfl rfl (Nat.le_of_ble_eq_true rfl) rfl rfl (fun p e s m below meth c hC => w_X9_ringOf  hG hO0 hC h)
abbrev rmX9_box : Room := { frames := 2, cells := 0, slots := 0, locals := 46 }
def c_X9_box (p1 : Int32) (p2 : Int32) (σ : HS) : Option (Int32 × HS) := (bi2 (c_X9_isBox p1 σ) (fun r3 s2 => (if r3 = 0 then (some ((-2), s2)) else (bi2 (c_X9_in (Int32.toInt64 p2) 0 1 s2) (fun r7 s6 => (if r7 = 0 then (some ((-2), s6)) else (if p2 = 0 then (if inb p1 12 = true then (some ((gI s6 4 (ix p1)), s6)) else none) else (bi2 (c_X9_ringOf p1 s6) (fun r12 s11 => (some (r12, s11)))))))))))
set_option maxHeartbeats 4000000 in
set_option maxRecDepth 100000 in
theorem w_X9_box {p : Program} {l : Launch} {e : Env} {s : State} {m : MethodId} {args : Array Value} {below : List Frame} {meth : Method} {c : Code} {A : Nat → Prop} {G : WD}  {r0 : Int32} {τ : HS} {p1 : Int32} {p2 : Int32} {σ : HS}  (hG : GX G mY) (hO0 : Ob G mY 0 8) (hC : Cx mE G.1 G.2.1 mY cX9_box 3 (some .int) RX9 wsX9_box p s m args meth c A) (h : c_X9_box p1 p2 σ = some (r0, τ)) : V p l e rmX9_box s m args below meth c 3 A G mY 0 0 (MQ below (QI G mY A r0 τ) args s 0 0 A) σ 0 [(0, .ref (G.2.2.1 0)), (1, .int p1), (2, .int p2)] [] := by
  rw [c_X9_box] at h
  refine v_aload_n hC dX9_box_0 0 rfl ?_
  refine v_iload_n hC dX9_box_1 1 rfl ?_
  obtain ⟨r3, s2, hc_1, h⟩ := bd2 h
  refine v_callVI hC mE_ok (n := 1) (As := [.int p1]) (k_X9_isBox l hG (hO0) hc_1) (cwV 1 hC.1.2.2.2.2 gX9_box_X9_isBox rfl rfl rfl (by decide +kernel) ⟨(Nat.le_of_ble_eq_true rfl), (Nat.le_of_ble_eq_true rfl)⟩) hO0 (by decide) rfl rfl rfl (Nat.le_of_ble_eq_true rfl) ⟨Nat.zero_le _, Nat.zero_le _⟩ dX9_box_2 rfl ?_
  refine v_if_eq (tgt := 18) hC dX9_box_5 (by decide) (fun c_4 => ?_) (fun c_4 => ?_)
  · replace h := ift c_4 h
    refine v_bipush (v := (-2)) hC dX9_box_18 (by decide) ?_
    exact v_iret hC rfl dX9_box_20 h
  · replace h := ifn c_4 h
    refine v_iload_n hC dX9_box_8 2 rfl ?_
    refine v_i2l hC dX9_box_9 ?_
    refine v_lconst (v := 0) hC dX9_box_10 (by decide) ?_
    refine v_lconst (v := 1) hC dX9_box_11 (by decide) ?_
    obtain ⟨r7, s6, hc_5, h⟩ := bd2 h
    refine v_callSI hC mE_ok (n := 3) (As := [.long (Int32.toInt64 p2), .long 0, .long 1]) (k_X9_in l hG hc_5) (va_cwS 3 hC.1.2.2.2.2 gX9_box_X9_in rfl rfl rfl (by decide +kernel) ⟨(Nat.le_of_ble_eq_true rfl), (Nat.le_of_ble_eq_true rfl)⟩) rfl (Nat.le_of_ble_eq_true rfl) ⟨Nat.zero_le _, Nat.zero_le _⟩ dX9_box_12 rfl ?_
    refine v_if_ne (tgt := 21) hC dX9_box_15 (by decide) (fun c_8 => ?_) (fun c_8 => ?_)
    · replace h := ifn c_8 h
      refine v_iload_n hC dX9_box_21 2 rfl ?_
      refine v_if_ne (tgt := 34) hC dX9_box_22 (by decide) (fun c_9 => ?_) (fun c_9 => ?_)
      · replace h := ifn c_9 h
        refine v_aload_n hC dX9_box_34 0 rfl ?_
        refine v_iload_n hC dX9_box_35 1 rfl ?_
        obtain ⟨r12, s11, hc_10, h⟩ := bd2 h
        refine v_callVI hC mE_ok (n := 1) (As := [.int p1]) (k_X9_ringOf l hG (hO0) hc_10) (cwV 1 hC.1.2.2.2.2 gX9_box_X9_ringOf rfl rfl rfl (by decide +kernel) ⟨(Nat.le_of_ble_eq_true rfl), (Nat.le_of_ble_eq_true rfl)⟩) hO0 (by decide) rfl rfl rfl (Nat.le_of_ble_eq_true rfl) ⟨Nat.zero_le _, Nat.zero_le _⟩ dX9_box_36 rfl ?_
        exact v_iret hC rfl dX9_box_39 h
      · replace h := ift c_9 h
        refine v_aload_n hC dX9_box_25 0 rfl ?_
        refine v_get (C := RX9) (T := TX9) (N := 45) (ci := 8) (k := 7) (v := .ref (G.2.2.1 4)) hC hO0 hi_X9_box_X9 rfl (by decide) (by decide) rfl rfl fl23_X9_box dX9_box_26 rfl ?_
        refine v_iload_n hC dX9_box_29 1 rfl ?_
        obtain ⟨g_13, h⟩ := gd h
        refine v_iald hC (obM_8_7 hG hO0).1 (obM_8_7 hG hO0).2 (t0 := 0) rfl g_13 dX9_box_30 ?_
        refine v_goto (tgt := 39) hC dX9_box_31 (by decide) ?_
        exact v_iret hC rfl dX9_box_39 h
    · replace h := ift c_8 h
      refine v_bipush (v := (-2)) hC dX9_box_18 (by decide) ?_
      exact v_iret hC rfl dX9_box_20 h
theorem k_X9_box (l : Launch) {G : WD}   {r0 : Int32} {τ : HS} {p1 : Int32} {p2 : Int32} {σ : HS}  (hG : GX G mY) (hO0 : Ob G mY 0 8) (h : c_X9_box p1 p2 σ = some (r0, τ)) : MI mE l yX9_box wsX9_box rmX9_box G mY [.ref (G.2.2.1 0), .int p1, .int p2] σ r0 τ :=
  MI.of RX9 (by decide) rfl rfl (Nat.le_of_ble_eq_true rfl) rfl rfl (fun p e s m below meth c hC => w_X9_box  hG hO0 hC h)
abbrev rmX9_lays : Room := { frames := 1, cells := 0, slots := 0, locals := 23 }
def c_X9_lays_121 (k19 : Int32 → Int32 → HS → Option HS) (k99 : Int32 → Int32 → Int32 → Int32 → Int32 → Int32 → HS → Option HS) (x1 : Int32) (x2 : Int32) (x3 : Int32) (x5 : Int32) (x6 : Int32) (y0 : Int32) (σ : HS) : Option HS := (if inb x5 12 = true then (k99 x1 x2 x3 y0 (gI σ 4 (ix x5)) (x6 + 1) σ) else none)
set_option maxHeartbeats 4000000 in
set_option maxRecDepth 100000 in
theorem w_X9_lays_121 {p : Program} {l : Launch} {e : Env} {s : State} {m : MethodId} {args : Array Value} {below : List Frame} {meth : Method} {c : Code} {A : Nat → Prop} {G : WD}  {τ : HS}  {k19 : Int32 → Int32 → HS → Option HS} {k99 : Int32 → Int32 → Int32 → Int32 → Int32 → Int32 → HS → Option HS} {x1 : Int32} {x2 : Int32} {x3 : Int32} {x5 : Int32} {x6 : Int32} {y0 : Int32} {σ : HS}  (hG : GX G mY) (hO0 : Ob G mY 0 8) (hC : Cx mE G.1 G.2.1 mY cX9_lays 7 none RX9 wsX9_lays p s m args meth c A) (hk19 : ∀ (x1 : Int32) (x2 : Int32) (σ : HS), k19 x1 x2 σ = some τ → V p l e rmX9_lays s m args below meth c 7 A G mY 0 0 (MQ below (QV G mY A τ) args s 0 0 A) σ 19 [(0, .ref (G.2.2.1 0)), (1, .int x1), (2, .int x2)] []) (hk99 : ∀ (x1 : Int32) (x2 : Int32) (x3 : Int32) (x4 : Int32) (x5 : Int32) (x6 : Int32) (σ : HS), k99 x1 x2 x3 x4 x5 x6 σ = some τ → V p l e rmX9_lays s m args below meth c 7 A G mY 0 0 (MQ below (QV G mY A τ) args s 0 0 A) σ 99 [(0, .ref (G.2.2.1 0)), (1, .int x1), (2, .int x2), (3, .int x3), (4, .int x4), (5, .int x5), (6, .int x6)] []) (h : c_X9_lays_121 k19 k99 x1 x2 x3 x5 x6 y0 σ = some τ) : V p l e rmX9_lays s m args below meth c 7 A G mY 0 0 (MQ below (QV G mY A τ) args s 0 0 A) σ 121 [(0, .ref (G.2.2.1 0)), (1, .int x1), (2, .int x2), (3, .int x3), (5, .int x5), (6, .int x6)] [.int y0] := by
  rw [c_X9_lays_121] at h
  refine v_istore (L' := [(0, .ref (G.2.2.1 0)), (1, .int x1), (2, .int x2), (3, .int x3), (4, .int y0), (5, .int x5), (6, .int x6)]) hC dX9_lays_121 (by decide) [1, 2, 3, 4, 0, 5, 6] rfl ?_
  refine v_aload_n hC dX9_lays_123 0 rfl ?_
  refine v_get (C := RX9) (T := TX9) (N := 45) (ci := 8) (k := 7) (v := .ref (G.2.2.1 4)) hC hO0 hi_X9_lays_X9 rfl (by decide) (by decide) rfl rfl fl23_X9_lays dX9_lays_124 rfl ?_
  refine v_iload hC dX9_lays_127 5 rfl ?_
  obtain ⟨g_26, h⟩ := gd h
  refine v_iald hC (obM_8_7 hG hO0).1 (obM_8_7 hG hO0).2 (t0 := 0) rfl g_26 dX9_lays_129 ?_
  refine v_istore (L' := [(0, .ref (G.2.2.1 0)), (1, .int x1), (2, .int x2), (3, .int x3), (4, .int y0), (5, .int (gI σ 4 (ix x5))), (6, .int x6)]) hC dX9_lays_130 (by decide) [1, 2, 3, 4, 5, 0, 6] rfl ?_
  refine v_iinc (v := (x6 + 1)) (L' := [(0, .ref (G.2.2.1 0)), (1, .int x1), (2, .int x2), (3, .int x3), (4, .int y0), (5, .int (gI σ 4 (ix x5))), (6, .int (x6 + 1))]) hC dX9_lays_132 6 rfl rfl (by decide) [1, 2, 3, 4, 5, 6, 0] rfl ?_
  refine v_goto (tgt := 99) hC dX9_lays_135 (by decide) ?_
  exact hk99 _ _ _ _ _ _ _ h
def c_X9_lays_120 (k19 : Int32 → Int32 → HS → Option HS) (k99 : Int32 → Int32 → Int32 → Int32 → Int32 → Int32 → HS → Option HS) (x1 : Int32) (x2 : Int32) (x3 : Int32) (x5 : Int32) (x6 : Int32) (σ : HS) : Option HS := (c_X9_lays_121 k19 k99 x1 x2 x3 x5 x6 0 σ)
set_option maxHeartbeats 4000000 in
set_option maxRecDepth 100000 in
theorem w_X9_lays_120 {p : Program} {l : Launch} {e : Env} {s : State} {m : MethodId} {args : Array Value} {below : List Frame} {meth : Method} {c : Code} {A : Nat → Prop} {G : WD}  {τ : HS}  {k19 : Int32 → Int32 → HS → Option HS} {k99 : Int32 → Int32 → Int32 → Int32 → Int32 → Int32 → HS → Option HS} {x1 : Int32} {x2 : Int32} {x3 : Int32} {x5 : Int32} {x6 : Int32} {σ : HS}  (hG : GX G mY) (hO0 : Ob G mY 0 8) (hC : Cx mE G.1 G.2.1 mY cX9_lays 7 none RX9 wsX9_lays p s m args meth c A) (hk19 : ∀ (x1 : Int32) (x2 : Int32) (σ : HS), k19 x1 x2 σ = some τ → V p l e rmX9_lays s m args below meth c 7 A G mY 0 0 (MQ below (QV G mY A τ) args s 0 0 A) σ 19 [(0, .ref (G.2.2.1 0)), (1, .int x1), (2, .int x2)] []) (hk99 : ∀ (x1 : Int32) (x2 : Int32) (x3 : Int32) (x4 : Int32) (x5 : Int32) (x6 : Int32) (σ : HS), k99 x1 x2 x3 x4 x5 x6 σ = some τ → V p l e rmX9_lays s m args below meth c 7 A G mY 0 0 (MQ below (QV G mY A τ) args s 0 0 A) σ 99 [(0, .ref (G.2.2.1 0)), (1, .int x1), (2, .int x2), (3, .int x3), (4, .int x4), (5, .int x5), (6, .int x6)] []) (h : c_X9_lays_120 k19 k99 x1 x2 x3 x5 x6 σ = some τ) : V p l e rmX9_lays s m args below meth c 7 A G mY 0 0 (MQ below (QV G mY A τ) args s 0 0 A) σ 120 [(0, .ref (G.2.2.1 0)), (1, .int x1), (2, .int x2), (3, .int x3), (5, .int x5), (6, .int x6)] [] := by
  rw [c_X9_lays_120] at h
  refine v_iconst (v := 0) hC dX9_lays_120 (by decide) ?_
  exact w_X9_lays_121 hG (hO0) hC hk19 hk99 h
def c_X9_lays_149 (k19 : Int32 → Int32 → HS → Option HS) (x2 : Int32) (y0 : Int32) (y1 : Int32) (σ : HS) : Option HS := (k19 (y0 + y1) (x2 + 1) σ)
set_option maxHeartbeats 4000000 in
set_option maxRecDepth 100000 in
theorem w_X9_lays_149 {p : Program} {l : Launch} {e : Env} {s : State} {m : MethodId} {args : Array Value} {below : List Frame} {meth : Method} {c : Code} {A : Nat → Prop} {G : WD}  {τ : HS}  {k19 : Int32 → Int32 → HS → Option HS} {x2 : Int32} {y0 : Int32} {y1 : Int32} {σ : HS}  (hG : GX G mY) (hO0 : Ob G mY 0 8) (hC : Cx mE G.1 G.2.1 mY cX9_lays 7 none RX9 wsX9_lays p s m args meth c A) (hk19 : ∀ (x1 : Int32) (x2 : Int32) (σ : HS), k19 x1 x2 σ = some τ → V p l e rmX9_lays s m args below meth c 7 A G mY 0 0 (MQ below (QV G mY A τ) args s 0 0 A) σ 19 [(0, .ref (G.2.2.1 0)), (1, .int x1), (2, .int x2)] []) (h : c_X9_lays_149 k19 x2 y0 y1 σ = some τ) : V p l e rmX9_lays s m args below meth c 7 A G mY 0 0 (MQ below (QV G mY A τ) args s 0 0 A) σ 149 [(0, .ref (G.2.2.1 0)), (2, .int x2)] [.int y1, .int y0] := by
  rw [c_X9_lays_149] at h
  refine v_iadd hC dX9_lays_149 ?_
  refine v_istore_n (L' := [(0, .ref (G.2.2.1 0)), (1, .int (y0 + y1)), (2, .int x2)]) hC dX9_lays_150 (by decide) [1, 0, 2] rfl ?_
  refine v_iinc (v := (x2 + 1)) (L' := [(0, .ref (G.2.2.1 0)), (1, .int (y0 + y1)), (2, .int (x2 + 1))]) hC dX9_lays_151 2 rfl rfl (by decide) [1, 2, 0] rfl ?_
  refine v_goto (tgt := 19) hC dX9_lays_154 (by decide) ?_
  exact hk19 _ _ _ h
def c_X9_lays_138 (k19 : Int32 → Int32 → HS → Option HS) (x1 : Int32) (x2 : Int32) (x4 : Int32) (σ : HS) : Option HS := (if x4 = 0 then (c_X9_lays_149 k19 x2 x1 0 σ) else (c_X9_lays_149 k19 x2 x1 1 σ))
set_option maxHeartbeats 4000000 in
set_option maxRecDepth 100000 in
theorem w_X9_lays_138 {p : Program} {l : Launch} {e : Env} {s : State} {m : MethodId} {args : Array Value} {below : List Frame} {meth : Method} {c : Code} {A : Nat → Prop} {G : WD}  {τ : HS}  {k19 : Int32 → Int32 → HS → Option HS} {x1 : Int32} {x2 : Int32} {x4 : Int32} {σ : HS}  (hG : GX G mY) (hO0 : Ob G mY 0 8) (hC : Cx mE G.1 G.2.1 mY cX9_lays 7 none RX9 wsX9_lays p s m args meth c A) (hk19 : ∀ (x1 : Int32) (x2 : Int32) (σ : HS), k19 x1 x2 σ = some τ → V p l e rmX9_lays s m args below meth c 7 A G mY 0 0 (MQ below (QV G mY A τ) args s 0 0 A) σ 19 [(0, .ref (G.2.2.1 0)), (1, .int x1), (2, .int x2)] []) (h : c_X9_lays_138 k19 x1 x2 x4 σ = some τ) : V p l e rmX9_lays s m args below meth c 7 A G mY 0 0 (MQ below (QV G mY A τ) args s 0 0 A) σ 138 [(0, .ref (G.2.2.1 0)), (1, .int x1), (2, .int x2), (4, .int x4)] [] := by
  rw [c_X9_lays_138] at h
  refine v_iload_n hC dX9_lays_138 1 rfl ?_
  refine v_iload hC dX9_lays_139 3 rfl ?_
  refine v_if_eq (tgt := 148) hC dX9_lays_141 (by decide) (fun c_25 => ?_) (fun c_25 => ?_)
  · replace h := ift c_25 h
    refine v_iconst (v := 0) hC dX9_lays_148 (by decide) ?_
    refine V.sub (L' := [(0, .ref (G.2.2.1 0)), (2, .int x2)]) [0, 2] rfl ?_
    exact w_X9_lays_149 hG (hO0) hC hk19 h
  · replace h := ifn c_25 h
    refine v_iconst (v := 1) hC dX9_lays_144 (by decide) ?_
    refine v_goto (tgt := 149) hC dX9_lays_145 (by decide) ?_
    refine V.sub (L' := [(0, .ref (G.2.2.1 0)), (2, .int x2)]) [0, 2] rfl ?_
    exact w_X9_lays_149 hG (hO0) hC hk19 h
def c_X9_lays_99 (k19 : Int32 → Int32 → HS → Option HS) : Nat → Int32 → Int32 → Int32 → Int32 → Int32 → Int32 → HS → Option HS
  | 0, _, _, _, _, _, _, _ => none
  | n + 1, x1, x2, x3, x4, x5, x6, σ => (if x3 ≤ x6 then (c_X9_lays_138 k19 x1 x2 x4 σ) else (if x4 = 0 then (c_X9_lays_120 k19 (fun z0 z1 z2 z3 z4 z5 z6 => c_X9_lays_99 k19 n z0 z1 z2 z3 z4 z5 z6) x1 x2 x3 x5 x6 σ) else (if x5 ≤ x2 then (c_X9_lays_120 k19 (fun z0 z1 z2 z3 z4 z5 z6 => c_X9_lays_99 k19 n z0 z1 z2 z3 z4 z5 z6) x1 x2 x3 x5 x6 σ) else (c_X9_lays_121 k19 (fun z0 z1 z2 z3 z4 z5 z6 => c_X9_lays_99 k19 n z0 z1 z2 z3 z4 z5 z6) x1 x2 x3 x5 x6 1 σ))))
set_option maxHeartbeats 4000000 in
set_option maxRecDepth 100000 in
theorem w_X9_lays_99 {p : Program} {l : Launch} {e : Env} {s : State} {m : MethodId} {args : Array Value} {below : List Frame} {meth : Method} {c : Code} {A : Nat → Prop} {G : WD}  {τ : HS}  {k19 : Int32 → Int32 → HS → Option HS}  (hG : GX G mY) (hO0 : Ob G mY 0 8) (hC : Cx mE G.1 G.2.1 mY cX9_lays 7 none RX9 wsX9_lays p s m args meth c A) (hk19 : ∀ (x1 : Int32) (x2 : Int32) (σ : HS), k19 x1 x2 σ = some τ → V p l e rmX9_lays s m args below meth c 7 A G mY 0 0 (MQ below (QV G mY A τ) args s 0 0 A) σ 19 [(0, .ref (G.2.2.1 0)), (1, .int x1), (2, .int x2)] []) : ∀ (n : Nat) (x1 : Int32) (x2 : Int32) (x3 : Int32) (x4 : Int32) (x5 : Int32) (x6 : Int32) (σ : HS), c_X9_lays_99 k19 n x1 x2 x3 x4 x5 x6 σ = some τ → V p l e rmX9_lays s m args below meth c 7 A G mY 0 0 (MQ below (QV G mY A τ) args s 0 0 A) σ 99 [(0, .ref (G.2.2.1 0)), (1, .int x1), (2, .int x2), (3, .int x3), (4, .int x4), (5, .int x5), (6, .int x6)] [] := by
  intro n
  induction n with
  | zero => intro x1 x2 x3 x4 x5 x6 σ h; exact nof h
  | succ n ih =>
    intro x1 x2 x3 x4 x5 x6 σ h
    rw [c_X9_lays_99] at h
    refine v_iload hC dX9_lays_99 6 rfl ?_
    refine v_iload_n hC dX9_lays_101 3 rfl ?_
    refine v_icmp_ge (tgt := 138) hC dX9_lays_102 (by decide) (fun c_22 => ?_) (fun c_22 => ?_)
    · replace h := ift c_22 h
      refine V.sub (L' := [(0, .ref (G.2.2.1 0)), (1, .int x1), (2, .int x2), (4, .int x4)]) [0, 1, 2, 4] rfl ?_
      exact w_X9_lays_138 hG (hO0) hC hk19 h
    · replace h := ifn c_22 h
      refine v_iload hC dX9_lays_105 4 rfl ?_
      refine v_if_eq (tgt := 120) hC dX9_lays_107 (by decide) (fun c_23 => ?_) (fun c_23 => ?_)
      · replace h := ift c_23 h
        refine V.sub (L' := [(0, .ref (G.2.2.1 0)), (1, .int x1), (2, .int x2), (3, .int x3), (5, .int x5), (6, .int x6)]) [0, 1, 2, 3, 5, 6] rfl ?_
        exact w_X9_lays_120 hG (hO0) hC hk19 (fun _ _ _ _ _ _ _ h => ih _ _ _ _ _ _ _ h) h
      · replace h := ifn c_23 h
        refine v_iload hC dX9_lays_110 5 rfl ?_
        refine v_iload_n hC dX9_lays_112 2 rfl ?_
        refine v_icmp_le (tgt := 120) hC dX9_lays_113 (by decide) (fun c_24 => ?_) (fun c_24 => ?_)
        · replace h := ift c_24 h
          refine V.sub (L' := [(0, .ref (G.2.2.1 0)), (1, .int x1), (2, .int x2), (3, .int x3), (5, .int x5), (6, .int x6)]) [0, 1, 2, 3, 5, 6] rfl ?_
          exact w_X9_lays_120 hG (hO0) hC hk19 (fun _ _ _ _ _ _ _ h => ih _ _ _ _ _ _ _ h) h
        · replace h := ifn c_24 h
          refine v_iconst (v := 1) hC dX9_lays_116 (by decide) ?_
          refine v_goto (tgt := 121) hC dX9_lays_117 (by decide) ?_
          refine V.sub (L' := [(0, .ref (G.2.2.1 0)), (1, .int x1), (2, .int x2), (3, .int x3), (5, .int x5), (6, .int x6)]) [0, 1, 2, 3, 5, 6] rfl ?_
          exact w_X9_lays_121 hG (hO0) hC hk19 (fun _ _ _ _ _ _ _ h => ih _ _ _ _ _ _ _ h) h
def c_X9_lays_86 (k19 : Int32 → Int32 → HS → Option HS) (x1 : Int32) (x2 : Int32) (x3 : Int32) (y0 : Int32) (σ : HS) : Option HS := (if inb x2 12 = true then (c_X9_lays_99 k19 FU x1 x2 x3 y0 (gI σ 4 (ix x2)) 1 σ) else none)
set_option maxHeartbeats 4000000 in
set_option maxRecDepth 100000 in
theorem w_X9_lays_86 {p : Program} {l : Launch} {e : Env} {s : State} {m : MethodId} {args : Array Value} {below : List Frame} {meth : Method} {c : Code} {A : Nat → Prop} {G : WD}  {τ : HS}  {k19 : Int32 → Int32 → HS → Option HS} {x1 : Int32} {x2 : Int32} {x3 : Int32} {y0 : Int32} {σ : HS}  (hG : GX G mY) (hO0 : Ob G mY 0 8) (hC : Cx mE G.1 G.2.1 mY cX9_lays 7 none RX9 wsX9_lays p s m args meth c A) (hk19 : ∀ (x1 : Int32) (x2 : Int32) (σ : HS), k19 x1 x2 σ = some τ → V p l e rmX9_lays s m args below meth c 7 A G mY 0 0 (MQ below (QV G mY A τ) args s 0 0 A) σ 19 [(0, .ref (G.2.2.1 0)), (1, .int x1), (2, .int x2)] []) (h : c_X9_lays_86 k19 x1 x2 x3 y0 σ = some τ) : V p l e rmX9_lays s m args below meth c 7 A G mY 0 0 (MQ below (QV G mY A τ) args s 0 0 A) σ 86 [(0, .ref (G.2.2.1 0)), (1, .int x1), (2, .int x2), (3, .int x3)] [.int y0] := by
  rw [c_X9_lays_86] at h
  refine v_istore (L' := [(0, .ref (G.2.2.1 0)), (1, .int x1), (2, .int x2), (3, .int x3), (4, .int y0)]) hC dX9_lays_86 (by decide) [1, 2, 3, 4, 0] rfl ?_
  refine v_aload_n hC dX9_lays_88 0 rfl ?_
  refine v_get (C := RX9) (T := TX9) (N := 45) (ci := 8) (k := 7) (v := .ref (G.2.2.1 4)) hC hO0 hi_X9_lays_X9 rfl (by decide) (by decide) rfl rfl fl23_X9_lays dX9_lays_89 rfl ?_
  refine v_iload_n hC dX9_lays_92 2 rfl ?_
  obtain ⟨g_21, h⟩ := gd h
  refine v_iald hC (obM_8_7 hG hO0).1 (obM_8_7 hG hO0).2 (t0 := 0) rfl g_21 dX9_lays_93 ?_
  refine v_istore (L' := [(0, .ref (G.2.2.1 0)), (1, .int x1), (2, .int x2), (3, .int x3), (4, .int y0), (5, .int (gI σ 4 (ix x2)))]) hC dX9_lays_94 (by decide) [1, 2, 3, 4, 5, 0] rfl ?_
  refine v_iconst (v := 1) hC dX9_lays_96 (by decide) ?_
  refine v_istore (L' := [(0, .ref (G.2.2.1 0)), (1, .int x1), (2, .int x2), (3, .int x3), (4, .int y0), (5, .int (gI σ 4 (ix x2))), (6, .int 1)]) hC dX9_lays_97 (by decide) [1, 2, 3, 4, 5, 6, 0] rfl ?_
  exact w_X9_lays_99 hG (hO0) hC hk19 FU _ _ _ _ _ _ _ h
def c_X9_lays_73 (k19 : Int32 → Int32 → HS → Option HS) (x1 : Int32) (x2 : Int32) (x3 : Int32) (y1 : Int32) (y2 : Int32) (σ : HS) : Option HS := (lt (sI σ 0 12 (y1 + y2)) (fun s18 => (if x3 ≤ 0 then (c_X9_lays_86 k19 x1 x2 x3 0 s18) else (c_X9_lays_86 k19 x1 x2 x3 1 s18))))
set_option maxHeartbeats 4000000 in
set_option maxRecDepth 100000 in
theorem w_X9_lays_73 {p : Program} {l : Launch} {e : Env} {s : State} {m : MethodId} {args : Array Value} {below : List Frame} {meth : Method} {c : Code} {A : Nat → Prop} {G : WD}  {τ : HS}  {k19 : Int32 → Int32 → HS → Option HS} {x1 : Int32} {x2 : Int32} {x3 : Int32} {y1 : Int32} {y2 : Int32} {σ : HS}  (hG : GX G mY) (hO0 : Ob G mY 0 8) (hP0 : Ob G mY 0 8) (hC : Cx mE G.1 G.2.1 mY cX9_lays 7 none RX9 wsX9_lays p s m args meth c A) (hk19 : ∀ (x1 : Int32) (x2 : Int32) (σ : HS), k19 x1 x2 σ = some τ → V p l e rmX9_lays s m args below meth c 7 A G mY 0 0 (MQ below (QV G mY A τ) args s 0 0 A) σ 19 [(0, .ref (G.2.2.1 0)), (1, .int x1), (2, .int x2)] []) (h : c_X9_lays_73 k19 x1 x2 x3 y1 y2 σ = some τ) : V p l e rmX9_lays s m args below meth c 7 A G mY 0 0 (MQ below (QV G mY A τ) args s 0 0 A) σ 73 [(0, .ref (G.2.2.1 0)), (1, .int x1), (2, .int x2), (3, .int x3)] [.int y2, .int y1, .ref (G.2.2.1 0)] := by
  rw [c_X9_lays_73] at h
  refine v_iadd hC dX9_lays_73 ?_
  refine v_putI (C := RX9) (T := TX9) (N := 45) (ci := 8) (k := 12) (ty := .int) hC hP0 hi_X9_lays_X9 rfl (by decide) (by decide) rfl rfl tyX9_ok nmX9 fl111_X9_lays rfl rfl rfl rfl rfl dX9_lays_74 ?_
  obtain ⟨s18, e19, h⟩ := ld h
  refine V.eq e19 ?_
  refine v_iload_n hC dX9_lays_77 3 rfl ?_
  refine v_if_le (tgt := 85) hC dX9_lays_78 (by decide) (fun c_20 => ?_) (fun c_20 => ?_)
  · replace h := ift c_20 h
    refine v_iconst (v := 0) hC dX9_lays_85 (by decide) ?_
    exact w_X9_lays_86 hG (hO0) hC hk19 h
  · replace h := ifn c_20 h
    refine v_iconst (v := 1) hC dX9_lays_81 (by decide) ?_
    refine v_goto (tgt := 86) hC dX9_lays_82 (by decide) ?_
    exact w_X9_lays_86 hG (hO0) hC hk19 h
def c_X9_lays_50 (k19 : Int32 → Int32 → HS → Option HS) (x1 : Int32) (x2 : Int32) (x3 : Int32) (y1 : Int32) (σ : HS) : Option HS := (lt (sI σ 0 11 y1) (fun s14 => (if inb x2 12 = true then (if (gI s14 4 (ix x2)) = (-1) then (c_X9_lays_73 k19 x1 x2 x3 (gI s14 0 12) 1 s14) else (c_X9_lays_73 k19 x1 x2 x3 (gI s14 0 12) 0 s14)) else none)))
set_option maxHeartbeats 4000000 in
set_option maxRecDepth 100000 in
theorem w_X9_lays_50 {p : Program} {l : Launch} {e : Env} {s : State} {m : MethodId} {args : Array Value} {below : List Frame} {meth : Method} {c : Code} {A : Nat → Prop} {G : WD}  {τ : HS}  {k19 : Int32 → Int32 → HS → Option HS} {x1 : Int32} {x2 : Int32} {x3 : Int32} {y1 : Int32} {σ : HS}  (hG : GX G mY) (hO0 : Ob G mY 0 8) (hP0 : Ob G mY 0 8) (hC : Cx mE G.1 G.2.1 mY cX9_lays 7 none RX9 wsX9_lays p s m args meth c A) (hk19 : ∀ (x1 : Int32) (x2 : Int32) (σ : HS), k19 x1 x2 σ = some τ → V p l e rmX9_lays s m args below meth c 7 A G mY 0 0 (MQ below (QV G mY A τ) args s 0 0 A) σ 19 [(0, .ref (G.2.2.1 0)), (1, .int x1), (2, .int x2)] []) (h : c_X9_lays_50 k19 x1 x2 x3 y1 σ = some τ) : V p l e rmX9_lays s m args below meth c 7 A G mY 0 0 (MQ below (QV G mY A τ) args s 0 0 A) σ 50 [(0, .ref (G.2.2.1 0)), (1, .int x1), (2, .int x2), (3, .int x3)] [.int y1, .ref (G.2.2.1 0)] := by
  rw [c_X9_lays_50] at h
  refine v_putI (C := RX9) (T := TX9) (N := 45) (ci := 8) (k := 11) (ty := .int) hC hP0 hi_X9_lays_X9 rfl (by decide) (by decide) rfl rfl tyX9_ok nmX9 fl108_X9_lays rfl rfl rfl rfl rfl dX9_lays_50 ?_
  obtain ⟨s14, e15, h⟩ := ld h
  refine V.eq e15 ?_
  refine v_aload_n hC dX9_lays_53 0 rfl ?_
  refine v_dup hC dX9_lays_54 rfl ?_
  refine v_get (C := RX9) (T := TX9) (N := 45) (ci := 8) (k := 12) (v := .int (gI s14 0 12)) hC hO0 hi_X9_lays_X9 rfl (by decide) (by decide) rfl rfl fl111_X9_lays dX9_lays_55 rfl ?_
  refine v_aload_n hC dX9_lays_58 0 rfl ?_
  refine v_get (C := RX9) (T := TX9) (N := 45) (ci := 8) (k := 7) (v := .ref (G.2.2.1 4)) hC hO0 hi_X9_lays_X9 rfl (by decide) (by decide) rfl rfl fl23_X9_lays dX9_lays_59 rfl ?_
  refine v_iload_n hC dX9_lays_62 2 rfl ?_
  obtain ⟨g_16, h⟩ := gd h
  refine v_iald hC (obM_8_7 hG hO0).1 (obM_8_7 hG hO0).2 (t0 := 0) rfl g_16 dX9_lays_63 ?_
  refine v_iconst (v := (-1)) hC dX9_lays_64 (by decide) ?_
  refine v_icmp_ne (tgt := 72) hC dX9_lays_65 (by decide) (fun c_17 => ?_) (fun c_17 => ?_)
  · replace h := ifn c_17 h
    refine v_iconst (v := 0) hC dX9_lays_72 (by decide) ?_
    exact w_X9_lays_73 hG (hO0) (hO0) hC hk19 h
  · replace h := ift c_17 h
    refine v_iconst (v := 1) hC dX9_lays_68 (by decide) ?_
    refine v_goto (tgt := 73) hC dX9_lays_69 (by decide) ?_
    exact w_X9_lays_73 hG (hO0) (hO0) hC hk19 h
def c_X9_lays_19 : Nat → Int32 → Int32 → HS → Option HS
  | 0, _, _, _ => none
  | n + 1, x1, x2, σ => (if (gI σ 0 8) ≤ x2 then (lt (sI σ 0 10 x1) (fun s8 => (some s8))) else (bi2 (c_X9_ringOf x2 σ) (fun r12 s11 => (if r12 ≤ (gI s11 0 11) then (c_X9_lays_50 (fun z0 z1 z2 => c_X9_lays_19 n z0 z1 z2) x1 x2 r12 (gI s11 0 11) s11) else (c_X9_lays_50 (fun z0 z1 z2 => c_X9_lays_19 n z0 z1 z2) x1 x2 r12 r12 s11)))))
set_option maxHeartbeats 4000000 in
set_option maxRecDepth 100000 in
theorem w_X9_lays_19 {p : Program} {l : Launch} {e : Env} {s : State} {m : MethodId} {args : Array Value} {below : List Frame} {meth : Method} {c : Code} {A : Nat → Prop} {G : WD}  {τ : HS}   (hG : GX G mY) (hO0 : Ob G mY 0 8) (hC : Cx mE G.1 G.2.1 mY cX9_lays 7 none RX9 wsX9_lays p s m args meth c A)  : ∀ (n : Nat) (x1 : Int32) (x2 : Int32) (σ : HS), c_X9_lays_19 n x1 x2 σ = some τ → V p l e rmX9_lays s m args below meth c 7 A G mY 0 0 (MQ below (QV G mY A τ) args s 0 0 A) σ 19 [(0, .ref (G.2.2.1 0)), (1, .int x1), (2, .int x2)] [] := by
  intro n
  induction n with
  | zero => intro x1 x2 σ h; exact nof h
  | succ n ih =>
    intro x1 x2 σ h
    rw [c_X9_lays_19] at h
    refine v_iload_n hC dX9_lays_19 2 rfl ?_
    refine v_aload_n hC dX9_lays_20 0 rfl ?_
    refine v_get (C := RX9) (T := TX9) (N := 45) (ci := 8) (k := 8) (v := .int (gI σ 0 8)) hC hO0 hi_X9_lays_X9 rfl (by decide) (by decide) rfl rfl fl74_X9_lays dX9_lays_21 rfl ?_
    refine v_icmp_ge (tgt := 157) hC dX9_lays_24 (by decide) (fun c_7 => ?_) (fun c_7 => ?_)
    · replace h := ift c_7 h
      refine v_aload_n hC dX9_lays_157 0 rfl ?_
      refine v_iload_n hC dX9_lays_158 1 rfl ?_
      refine v_putI (C := RX9) (T := TX9) (N := 45) (ci := 8) (k := 10) (ty := .int) hC hO0 hi_X9_lays_X9 rfl (by decide) (by decide) rfl rfl tyX9_ok nmX9 fl114_X9_lays rfl rfl rfl rfl rfl dX9_lays_159 ?_
      obtain ⟨s8, e9, h⟩ := ld h
      refine V.eq e9 ?_
      exact v_vret hC rfl dX9_lays_162 h
    · replace h := ifn c_7 h
      refine v_aload_n hC dX9_lays_27 0 rfl ?_
      refine v_iload_n hC dX9_lays_28 2 rfl ?_
      obtain ⟨r12, s11, hc_10, h⟩ := bd2 h
      refine v_callVI hC mE_ok (n := 1) (As := [.int x2]) (k_X9_ringOf l hG (hO0) hc_10) (cwV 1 hC.1.2.2.2.2 gX9_lays_X9_ringOf rfl rfl rfl (by decide +kernel) ⟨(Nat.le_of_ble_eq_true rfl), (Nat.le_of_ble_eq_true rfl)⟩) hO0 (by decide) rfl rfl rfl (Nat.le_of_ble_eq_true rfl) ⟨Nat.zero_le _, Nat.zero_le _⟩ dX9_lays_29 rfl ?_
      refine v_istore_n (L' := [(0, .ref (G.2.2.1 0)), (1, .int x1), (2, .int x2), (3, .int r12)]) hC dX9_lays_32 (by decide) [1, 2, 3, 0] rfl ?_
      refine v_aload_n hC dX9_lays_33 0 rfl ?_
      refine v_iload_n hC dX9_lays_34 3 rfl ?_
      refine v_aload_n hC dX9_lays_35 0 rfl ?_
      refine v_get (C := RX9) (T := TX9) (N := 45) (ci := 8) (k := 11) (v := .int (gI s11 0 11)) hC hO0 hi_X9_lays_X9 rfl (by decide) (by decide) rfl rfl fl108_X9_lays dX9_lays_36 rfl ?_
      refine v_icmp_le (tgt := 46) hC dX9_lays_39 (by decide) (fun c_13 => ?_) (fun c_13 => ?_)
      · replace h := ift c_13 h
        refine v_aload_n hC dX9_lays_46 0 rfl ?_
        refine v_get (C := RX9) (T := TX9) (N := 45) (ci := 8) (k := 11) (v := .int (gI s11 0 11)) hC hO0 hi_X9_lays_X9 rfl (by decide) (by decide) rfl rfl fl108_X9_lays dX9_lays_47 rfl ?_
        exact w_X9_lays_50 hG (hO0) (hO0) hC (fun _ _ _ h => ih _ _ _ h) h
      · replace h := ifn c_13 h
        refine v_iload_n hC dX9_lays_42 3 rfl ?_
        refine v_goto (tgt := 50) hC dX9_lays_43 (by decide) ?_
        exact w_X9_lays_50 hG (hO0) (hO0) hC (fun _ _ _ h => ih _ _ _ h) h
def c_X9_lays (σ : HS) : Option HS := (lt (sI σ 0 11 0) (fun s1 => (lt (sI s1 0 12 0) (fun s3 => (lt (sI s3 0 10 0) (fun s5 => (c_X9_lays_19 FU 0 0 s5)))))))
set_option maxHeartbeats 4000000 in
set_option maxRecDepth 100000 in
theorem w_X9_lays {p : Program} {l : Launch} {e : Env} {s : State} {m : MethodId} {args : Array Value} {below : List Frame} {meth : Method} {c : Code} {A : Nat → Prop} {G : WD}  {τ : HS}  {σ : HS}  (hG : GX G mY) (hO0 : Ob G mY 0 8) (hC : Cx mE G.1 G.2.1 mY cX9_lays 7 none RX9 wsX9_lays p s m args meth c A) (h : c_X9_lays  σ = some τ) : V p l e rmX9_lays s m args below meth c 7 A G mY 0 0 (MQ below (QV G mY A τ) args s 0 0 A) σ 0 [(0, .ref (G.2.2.1 0))] [] := by
  rw [c_X9_lays] at h
  refine v_iconst (v := 0) hC dX9_lays_0 (by decide) ?_
  refine v_istore_n (L' := [(0, .ref (G.2.2.1 0)), (1, .int 0)]) hC dX9_lays_1 (by decide) [1, 0] rfl ?_
  refine v_aload_n hC dX9_lays_2 0 rfl ?_
  refine v_iconst (v := 0) hC dX9_lays_3 (by decide) ?_
  refine v_putI (C := RX9) (T := TX9) (N := 45) (ci := 8) (k := 11) (ty := .int) hC hO0 hi_X9_lays_X9 rfl (by decide) (by decide) rfl rfl tyX9_ok nmX9 fl108_X9_lays rfl rfl rfl rfl rfl dX9_lays_4 ?_
  obtain ⟨s1, e2, h⟩ := ld h
  refine V.eq e2 ?_
  refine v_aload_n hC dX9_lays_7 0 rfl ?_
  refine v_iconst (v := 0) hC dX9_lays_8 (by decide) ?_
  refine v_putI (C := RX9) (T := TX9) (N := 45) (ci := 8) (k := 12) (ty := .int) hC hO0 hi_X9_lays_X9 rfl (by decide) (by decide) rfl rfl tyX9_ok nmX9 fl111_X9_lays rfl rfl rfl rfl rfl dX9_lays_9 ?_
  obtain ⟨s3, e4, h⟩ := ld h
  refine V.eq e4 ?_
  refine v_aload_n hC dX9_lays_12 0 rfl ?_
  refine v_iconst (v := 0) hC dX9_lays_13 (by decide) ?_
  refine v_putI (C := RX9) (T := TX9) (N := 45) (ci := 8) (k := 10) (ty := .int) hC hO0 hi_X9_lays_X9 rfl (by decide) (by decide) rfl rfl tyX9_ok nmX9 fl114_X9_lays rfl rfl rfl rfl rfl dX9_lays_14 ?_
  obtain ⟨s5, e6, h⟩ := ld h
  refine V.eq e6 ?_
  refine v_iconst (v := 0) hC dX9_lays_17 (by decide) ?_
  refine v_istore_n (L' := [(0, .ref (G.2.2.1 0)), (1, .int 0), (2, .int 0)]) hC dX9_lays_18 (by decide) [1, 2, 0] rfl ?_
  exact w_X9_lays_19 hG (hO0) hC FU _ _ _ h
theorem k_X9_lays (l : Launch) {G : WD}   {τ : HS}  {σ : HS}  (hG : GX G mY) (hO0 : Ob G mY 0 8) (h : c_X9_lays  σ = some τ) : MV mE l yX9_lays wsX9_lays rmX9_lays G mY [.ref (G.2.2.1 0)] σ τ :=
  MV.of RX9 (by decide) rfl rfl (Nat.le_of_ble_eq_true rfl) rfl rfl (fun p e s m below meth c hC => w_X9_lays  hG hO0 hC h)
abbrev rmX9_rings : Room := { frames := 2, cells := 0, slots := 0, locals := 49 }
def c_X9_rings (p1 : Int32) (σ : HS) : Option (Int32 × HS) := (bi2 (c_X9_in (Int32.toInt64 p1) 0 2 σ) (fun r3 s2 => (if r3 = 0 then (some ((-2), s2)) else (bi1 (c_X9_lays s2) (fun s6 => (if p1 = 0 then (some ((gI s6 0 10), s6)) else (if p1 = 1 then (some ((gI s6 0 11), s6)) else (some ((gI s6 0 12), s6)))))))))
set_option maxHeartbeats 4000000 in
set_option maxRecDepth 100000 in
theorem w_X9_rings {p : Program} {l : Launch} {e : Env} {s : State} {m : MethodId} {args : Array Value} {below : List Frame} {meth : Method} {c : Code} {A : Nat → Prop} {G : WD}  {r0 : Int32} {τ : HS} {p1 : Int32} {σ : HS}  (hG : GX G mY) (hO0 : Ob G mY 0 8) (hC : Cx mE G.1 G.2.1 mY cX9_rings 2 (some .int) RX9 wsX9_rings p s m args meth c A) (h : c_X9_rings p1 σ = some (r0, τ)) : V p l e rmX9_rings s m args below meth c 2 A G mY 0 0 (MQ below (QI G mY A r0 τ) args s 0 0 A) σ 0 [(0, .ref (G.2.2.1 0)), (1, .int p1)] [] := by
  rw [c_X9_rings] at h
  refine v_iload_n hC dX9_rings_0 1 rfl ?_
  refine v_i2l hC dX9_rings_1 ?_
  refine v_lconst (v := 0) hC dX9_rings_2 (by decide) ?_
  refine v_ldc2 (v := 2) hC lc117_X9_rings dX9_rings_3 ?_
  obtain ⟨r3, s2, hc_1, h⟩ := bd2 h
  refine v_callSI hC mE_ok (n := 3) (As := [.long (Int32.toInt64 p1), .long 0, .long 2]) (k_X9_in l hG hc_1) (va_cwS 3 hC.1.2.2.2.2 gX9_rings_X9_in rfl rfl rfl (by decide +kernel) ⟨(Nat.le_of_ble_eq_true rfl), (Nat.le_of_ble_eq_true rfl)⟩) rfl (Nat.le_of_ble_eq_true rfl) ⟨Nat.zero_le _, Nat.zero_le _⟩ dX9_rings_6 rfl ?_
  refine v_if_ne (tgt := 15) hC dX9_rings_9 (by decide) (fun c_4 => ?_) (fun c_4 => ?_)
  · replace h := ifn c_4 h
    refine v_aload_n hC dX9_rings_15 0 rfl ?_
    obtain ⟨s6, hc_5, h⟩ := bd1 h
    refine v_callVV hC mE_ok (n := 0) (As := []) (k_X9_lays l hG (hO0) hc_5) (cwV 0 hC.1.2.2.2.2 gX9_rings_X9_lays rfl rfl rfl (by decide +kernel) ⟨(Nat.le_of_ble_eq_true rfl), (Nat.le_of_ble_eq_true rfl)⟩) hO0 (by decide) rfl rfl rfl (Nat.le_of_ble_eq_true rfl) ⟨Nat.zero_le _, Nat.zero_le _⟩ dX9_rings_16 rfl ?_
    refine v_iload_n hC dX9_rings_19 1 rfl ?_
    refine v_if_ne (tgt := 30) hC dX9_rings_20 (by decide) (fun c_7 => ?_) (fun c_7 => ?_)
    · replace h := ifn c_7 h
      refine v_iload_n hC dX9_rings_30 1 rfl ?_
      refine v_iconst (v := 1) hC dX9_rings_31 (by decide) ?_
      refine v_icmp_ne (tgt := 42) hC dX9_rings_32 (by decide) (fun c_8 => ?_) (fun c_8 => ?_)
      · replace h := ifn c_8 h
        refine v_aload_n hC dX9_rings_42 0 rfl ?_
        refine v_get (C := RX9) (T := TX9) (N := 45) (ci := 8) (k := 12) (v := .int (gI s6 0 12)) hC hO0 hi_X9_rings_X9 rfl (by decide) (by decide) rfl rfl fl111_X9_rings dX9_rings_43 rfl ?_
        exact v_iret hC rfl dX9_rings_46 h
      · replace h := ift c_8 h
        refine v_aload_n hC dX9_rings_35 0 rfl ?_
        refine v_get (C := RX9) (T := TX9) (N := 45) (ci := 8) (k := 11) (v := .int (gI s6 0 11)) hC hO0 hi_X9_rings_X9 rfl (by decide) (by decide) rfl rfl fl108_X9_rings dX9_rings_36 rfl ?_
        refine v_goto (tgt := 46) hC dX9_rings_39 (by decide) ?_
        exact v_iret hC rfl dX9_rings_46 h
    · replace h := ift c_7 h
      refine v_aload_n hC dX9_rings_23 0 rfl ?_
      refine v_get (C := RX9) (T := TX9) (N := 45) (ci := 8) (k := 10) (v := .int (gI s6 0 10)) hC hO0 hi_X9_rings_X9 rfl (by decide) (by decide) rfl rfl fl114_X9_rings dX9_rings_24 rfl ?_
      refine v_goto (tgt := 46) hC dX9_rings_27 (by decide) ?_
      exact v_iret hC rfl dX9_rings_46 h
  · replace h := ift c_4 h
    refine v_bipush (v := (-2)) hC dX9_rings_12 (by decide) ?_
    exact v_iret hC rfl dX9_rings_14 h
theorem k_X9_rings (l : Launch) {G : WD}   {r0 : Int32} {τ : HS} {p1 : Int32} {σ : HS}  (hG : GX G mY) (hO0 : Ob G mY 0 8) (h : c_X9_rings p1 σ = some (r0, τ)) : MI mE l yX9_rings wsX9_rings rmX9_rings G mY [.ref (G.2.2.1 0), .int p1] σ r0 τ :=
  MI.of RX9 (by decide) rfl rfl (Nat.le_of_ble_eq_true rfl) rfl rfl (fun p e s m below meth c hC => w_X9_rings  hG hO0 hC h)
abbrev rmX9_feed : Room := { frames := 1, cells := 0, slots := 0, locals := 25 }
def c_X9_feed_33 : Nat → Int32 → Int64 → Int32 → HS → Option (Int32 × HS)
  | 0, _, _, _, _ => none
  | n + 1, x1, x2, x4, σ => (if x1 ≤ x4 then (some ((gI σ 0 6), σ)) else (if inb (gI σ 0 6) 160 = true then (lt (sI σ 3 (ix (gI σ 0 6)) (Int64.toInt32 ((x2 >>> (Int32.toInt64 (8 * x4) &&& 63)) &&& 255))) (fun s8 => (lt (sI s8 0 6 ((gI s8 0 6) + 1)) (fun s10 => (c_X9_feed_33 n x1 x2 (x4 + 1) s10))))) else none))
set_option maxHeartbeats 4000000 in
set_option maxRecDepth 100000 in
theorem w_X9_feed_33 {p : Program} {l : Launch} {e : Env} {s : State} {m : MethodId} {args : Array Value} {below : List Frame} {meth : Method} {c : Code} {A : Nat → Prop} {G : WD}  {r0 : Int32} {τ : HS}   (hG : GX G mY) (hO0 : Ob G mY 0 8) (hC : Cx mE G.1 G.2.1 mY cX9_feed 5 (some .int) RX9 wsX9_feed p s m args meth c A)  : ∀ (n : Nat) (x1 : Int32) (x2 : Int64) (x4 : Int32) (σ : HS), c_X9_feed_33 n x1 x2 x4 σ = some (r0, τ) → V p l e rmX9_feed s m args below meth c 5 A G mY 0 0 (MQ below (QI G mY A r0 τ) args s 0 0 A) σ 33 [(0, .ref (G.2.2.1 0)), (1, .int x1), (2, .long x2), (4, .int x4)] [] := by
  intro n
  induction n with
  | zero => intro x1 x2 x4 σ h; exact nof h
  | succ n ih =>
    intro x1 x2 x4 σ h
    rw [c_X9_feed_33] at h
    refine v_iload hC dX9_feed_33 3 rfl ?_
    refine v_iload_n hC dX9_feed_35 1 rfl ?_
    refine v_icmp_ge (tgt := 76) hC dX9_feed_36 (by decide) (fun c_6 => ?_) (fun c_6 => ?_)
    · replace h := ift c_6 h
      refine v_aload_n hC dX9_feed_76 0 rfl ?_
      refine v_get (C := RX9) (T := TX9) (N := 45) (ci := 8) (k := 6) (v := .int (gI σ 0 6)) hC hO0 hi_X9_feed_X9 rfl (by decide) (by decide) rfl rfl fl124_X9_feed dX9_feed_77 rfl ?_
      exact v_iret hC rfl dX9_feed_80 h
    · replace h := ifn c_6 h
      refine v_aload_n hC dX9_feed_39 0 rfl ?_
      refine v_get (C := RX9) (T := TX9) (N := 45) (ci := 8) (k := 5) (v := .ref (G.2.2.1 3)) hC hO0 hi_X9_feed_X9 rfl (by decide) (by decide) rfl rfl fl20_X9_feed dX9_feed_40 rfl ?_
      refine v_aload_n hC dX9_feed_43 0 rfl ?_
      refine v_get (C := RX9) (T := TX9) (N := 45) (ci := 8) (k := 6) (v := .int (gI σ 0 6)) hC hO0 hi_X9_feed_X9 rfl (by decide) (by decide) rfl rfl fl124_X9_feed dX9_feed_44 rfl ?_
      refine v_lload_n hC dX9_feed_47 2 rfl ?_
      refine v_bipush (v := 8) hC dX9_feed_48 (by decide) ?_
      refine v_iload hC dX9_feed_50 3 rfl ?_
      refine v_imul hC dX9_feed_52 ?_
      refine v_lshr hC dX9_feed_53 ?_
      refine v_ldc2 (v := 255) hC lc83_X9_feed dX9_feed_54 ?_
      refine v_land hC dX9_feed_57 ?_
      refine v_l2i hC dX9_feed_58 ?_
      obtain ⟨g_7, h⟩ := gd h
      refine v_iast hC (obM_8_5 hG hO0).1 (obM_8_5 hG hO0).2 (t0 := 0) rfl g_7 dX9_feed_59 ?_
      obtain ⟨s8, e9, h⟩ := ld h
      refine V.eq e9 ?_
      refine v_aload_n hC dX9_feed_60 0 rfl ?_
      refine v_dup hC dX9_feed_61 rfl ?_
      refine v_get (C := RX9) (T := TX9) (N := 45) (ci := 8) (k := 6) (v := .int (gI s8 0 6)) hC hO0 hi_X9_feed_X9 rfl (by decide) (by decide) rfl rfl fl124_X9_feed dX9_feed_62 rfl ?_
      refine v_iconst (v := 1) hC dX9_feed_65 (by decide) ?_
      refine v_iadd hC dX9_feed_66 ?_
      refine v_putI (C := RX9) (T := TX9) (N := 45) (ci := 8) (k := 6) (ty := .int) hC hO0 hi_X9_feed_X9 rfl (by decide) (by decide) rfl rfl tyX9_ok nmX9 fl124_X9_feed rfl rfl rfl rfl rfl dX9_feed_67 ?_
      obtain ⟨s10, e11, h⟩ := ld h
      refine V.eq e11 ?_
      refine v_iinc (v := (x4 + 1)) (L' := [(0, .ref (G.2.2.1 0)), (1, .int x1), (2, .long x2), (4, .int (x4 + 1))]) hC dX9_feed_70 3 rfl rfl (by decide) [1, 2, 3, 0] rfl ?_
      refine v_goto (tgt := 33) hC dX9_feed_73 (by decide) ?_
      exact ih _ _ _ _ h
def c_X9_feed (p1 : Int32) (p2 : Int64) (σ : HS) : Option (Int32 × HS) := (bi2 (c_X9_in (Int32.toInt64 p1) 1 8 σ) (fun r3 s2 => (if r3 = 0 then (some ((-2), s2)) else (if ((gI s2 0 6) + p1) ≤ 160 then (c_X9_feed_33 FU p1 p2 0 s2) else (some ((-4), s2))))))
set_option maxHeartbeats 4000000 in
set_option maxRecDepth 100000 in
theorem w_X9_feed {p : Program} {l : Launch} {e : Env} {s : State} {m : MethodId} {args : Array Value} {below : List Frame} {meth : Method} {c : Code} {A : Nat → Prop} {G : WD}  {r0 : Int32} {τ : HS} {p1 : Int32} {p2 : Int64} {σ : HS}  (hG : GX G mY) (hO0 : Ob G mY 0 8) (hC : Cx mE G.1 G.2.1 mY cX9_feed 5 (some .int) RX9 wsX9_feed p s m args meth c A) (h : c_X9_feed p1 p2 σ = some (r0, τ)) : V p l e rmX9_feed s m args below meth c 5 A G mY 0 0 (MQ below (QI G mY A r0 τ) args s 0 0 A) σ 0 [(0, .ref (G.2.2.1 0)), (1, .int p1), (2, .long p2)] [] := by
  rw [c_X9_feed] at h
  refine v_iload_n hC dX9_feed_0 1 rfl ?_
  refine v_i2l hC dX9_feed_1 ?_
  refine v_lconst (v := 1) hC dX9_feed_2 (by decide) ?_
  refine v_ldc2 (v := 8) hC lc122_X9_feed dX9_feed_3 ?_
  obtain ⟨r3, s2, hc_1, h⟩ := bd2 h
  refine v_callSI hC mE_ok (n := 3) (As := [.long (Int32.toInt64 p1), .long 1, .long 8]) (k_X9_in l hG hc_1) (va_cwS 3 hC.1.2.2.2.2 gX9_feed_X9_in rfl rfl rfl (by decide +kernel) ⟨(Nat.le_of_ble_eq_true rfl), (Nat.le_of_ble_eq_true rfl)⟩) rfl (Nat.le_of_ble_eq_true rfl) ⟨Nat.zero_le _, Nat.zero_le _⟩ dX9_feed_6 rfl ?_
  refine v_if_ne (tgt := 15) hC dX9_feed_9 (by decide) (fun c_4 => ?_) (fun c_4 => ?_)
  · replace h := ifn c_4 h
    refine v_aload_n hC dX9_feed_15 0 rfl ?_
    refine v_get (C := RX9) (T := TX9) (N := 45) (ci := 8) (k := 6) (v := .int (gI s2 0 6)) hC hO0 hi_X9_feed_X9 rfl (by decide) (by decide) rfl rfl fl124_X9_feed dX9_feed_16 rfl ?_
    refine v_iload_n hC dX9_feed_19 1 rfl ?_
    refine v_iadd hC dX9_feed_20 ?_
    refine v_sipush (v := 160) hC dX9_feed_21 (by decide) ?_
    refine v_icmp_le (tgt := 30) hC dX9_feed_24 (by decide) (fun c_5 => ?_) (fun c_5 => ?_)
    · replace h := ift c_5 h
      refine v_iconst (v := 0) hC dX9_feed_30 (by decide) ?_
      refine v_istore (L' := [(0, .ref (G.2.2.1 0)), (1, .int p1), (2, .long p2), (4, .int 0)]) hC dX9_feed_31 (by decide) [1, 2, 3, 0] rfl ?_
      exact w_X9_feed_33 hG (hO0) hC FU _ _ _ _ h
    · replace h := ifn c_5 h
      refine v_bipush (v := (-4)) hC dX9_feed_27 (by decide) ?_
      exact v_iret hC rfl dX9_feed_29 h
  · replace h := ift c_4 h
    refine v_bipush (v := (-2)) hC dX9_feed_12 (by decide) ?_
    exact v_iret hC rfl dX9_feed_14 h
theorem k_X9_feed (l : Launch) {G : WD}   {r0 : Int32} {τ : HS} {p1 : Int32} {p2 : Int64} {σ : HS}  (hG : GX G mY) (hO0 : Ob G mY 0 8) (h : c_X9_feed p1 p2 σ = some (r0, τ)) : MI mE l yX9_feed wsX9_feed rmX9_feed G mY [.ref (G.2.2.1 0), .int p1, .long p2] σ r0 τ :=
  MI.of RX9 (by decide) rfl rfl (Nat.le_of_ble_eq_true rfl) rfl rfl (fun p e s m below meth c hC => w_X9_feed  hG hO0 hC h)
abbrev rmX9_byteAt : Room := { frames := 0, cells := 0, slots := 0, locals := 0 }
def c_X9_byteAt (p1 : Int32) (σ : HS) : Option (Int32 × HS) := (if (gI σ 0 14) ≤ p1 then (some ((-1), σ)) else (if inb ((gI σ 0 13) + p1) 960 = true then (some ((gI σ 1 (ix ((gI σ 0 13) + p1))), σ)) else none))
set_option maxHeartbeats 4000000 in
set_option maxRecDepth 100000 in
theorem w_X9_byteAt {p : Program} {l : Launch} {e : Env} {s : State} {m : MethodId} {args : Array Value} {below : List Frame} {meth : Method} {c : Code} {A : Nat → Prop} {G : WD}  {r0 : Int32} {τ : HS} {p1 : Int32} {σ : HS}  (hG : GX G mY) (hO0 : Ob G mY 0 8) (hC : Cx mE G.1 G.2.1 mY cX9_byteAt 2 (some .int) RX9 wsX9_byteAt p s m args meth c A) (h : c_X9_byteAt p1 σ = some (r0, τ)) : V p l e rmX9_byteAt s m args below meth c 2 A G mY 0 0 (MQ below (QI G mY A r0 τ) args s 0 0 A) σ 0 [(0, .ref (G.2.2.1 0)), (1, .int p1)] [] := by
  rw [c_X9_byteAt] at h
  refine v_iload_n hC dX9_byteAt_0 1 rfl ?_
  refine v_aload_n hC dX9_byteAt_1 0 rfl ?_
  refine v_get (C := RX9) (T := TX9) (N := 45) (ci := 8) (k := 14) (v := .int (gI σ 0 14)) hC hO0 hi_X9_byteAt_X9 rfl (by decide) (by decide) rfl rfl fl127_X9_byteAt dX9_byteAt_2 rfl ?_
  refine v_icmp_ge (tgt := 22) hC dX9_byteAt_5 (by decide) (fun c_1 => ?_) (fun c_1 => ?_)
  · replace h := ift c_1 h
    refine v_iconst (v := (-1)) hC dX9_byteAt_22 (by decide) ?_
    exact v_iret hC rfl dX9_byteAt_23 h
  · replace h := ifn c_1 h
    refine v_aload_n hC dX9_byteAt_8 0 rfl ?_
    refine v_get (C := RX9) (T := TX9) (N := 45) (ci := 8) (k := 1) (v := .ref (G.2.2.1 1)) hC hO0 hi_X9_byteAt_X9 rfl (by decide) (by decide) rfl rfl fl13_X9_byteAt dX9_byteAt_9 rfl ?_
    refine v_aload_n hC dX9_byteAt_12 0 rfl ?_
    refine v_get (C := RX9) (T := TX9) (N := 45) (ci := 8) (k := 13) (v := .int (gI σ 0 13)) hC hO0 hi_X9_byteAt_X9 rfl (by decide) (by decide) rfl rfl fl130_X9_byteAt dX9_byteAt_13 rfl ?_
    refine v_iload_n hC dX9_byteAt_16 1 rfl ?_
    refine v_iadd hC dX9_byteAt_17 ?_
    obtain ⟨g_2, h⟩ := gd h
    refine v_iald hC (obM_8_1 hG hO0).1 (obM_8_1 hG hO0).2 (t0 := 0) rfl g_2 dX9_byteAt_18 ?_
    refine v_goto (tgt := 23) hC dX9_byteAt_19 (by decide) ?_
    exact v_iret hC rfl dX9_byteAt_23 h
theorem k_X9_byteAt (l : Launch) {G : WD}   {r0 : Int32} {τ : HS} {p1 : Int32} {σ : HS}  (hG : GX G mY) (hO0 : Ob G mY 0 8) (h : c_X9_byteAt p1 σ = some (r0, τ)) : MI mE l yX9_byteAt wsX9_byteAt rmX9_byteAt G mY [.ref (G.2.2.1 0), .int p1] σ r0 τ :=
  MI.of RX9 (by decide) rfl rfl (Nat.le_of_ble_eq_true rfl) rfl rfl (fun p e s m below meth c hC => w_X9_byteAt  hG hO0 hC h)
abbrev rmX9_next1 : Room := { frames := 1, cells := 0, slots := 0, locals := 25 }
def c_X9_next1_26 (k0 : HS → Option HS) (σ : HS) : Option HS := (lt (sI σ 0 18 ((gI σ 0 18) + 1)) (fun s9 => (k0 s9)))
set_option maxHeartbeats 4000000 in
set_option maxRecDepth 100000 in
theorem w_X9_next1_26 {p : Program} {l : Launch} {e : Env} {s : State} {m : MethodId} {args : Array Value} {below : List Frame} {meth : Method} {c : Code} {A : Nat → Prop} {G : WD}  {τ : HS}  {k0 : HS → Option HS}  {σ : HS}  (hG : GX G mY) (hO0 : Ob G mY 0 8) (hC : Cx mE G.1 G.2.1 mY cX9_next1 3 none RX9 wsX9_next1 p s m args meth c A) (hk0 : ∀  (σ : HS), k0  σ = some τ → V p l e rmX9_next1 s m args below meth c 3 A G mY 0 0 (MQ below (QV G mY A τ) args s 0 0 A) σ 0 [(0, .ref (G.2.2.1 0))] []) (h : c_X9_next1_26 k0  σ = some τ) : V p l e rmX9_next1 s m args below meth c 3 A G mY 0 0 (MQ below (QV G mY A τ) args s 0 0 A) σ 26 [(0, .ref (G.2.2.1 0))] [] := by
  rw [c_X9_next1_26] at h
  refine v_aload_n hC dX9_next1_26 0 rfl ?_
  refine v_dup hC dX9_next1_27 rfl ?_
  refine v_get (C := RX9) (T := TX9) (N := 45) (ci := 8) (k := 18) (v := .int (gI σ 0 18)) hC hO0 hi_X9_next1_X9 rfl (by decide) (by decide) rfl rfl fl133_X9_next1 dX9_next1_28 rfl ?_
  refine v_iconst (v := 1) hC dX9_next1_31 (by decide) ?_
  refine v_iadd hC dX9_next1_32 ?_
  refine v_putI (C := RX9) (T := TX9) (N := 45) (ci := 8) (k := 18) (ty := .int) hC hO0 hi_X9_next1_X9 rfl (by decide) (by decide) rfl rfl tyX9_ok nmX9 fl133_X9_next1 rfl rfl rfl rfl rfl dX9_next1_33 ?_
  obtain ⟨s9, e10, h⟩ := ld h
  refine V.eq e10 ?_
  refine v_goto (tgt := 0) hC dX9_next1_36 (by decide) ?_
  exact hk0  _ h
def c_X9_next1_163 (k107 : Int32 → HS → Option HS) (x2 : Int32) (y1 : Int64) (σ : HS) : Option HS := (lt (sJ σ 0 17 y1) (fun s84 => (lt (sI s84 0 18 ((gI s84 0 18) + 1)) (fun s86 => (k107 (x2 + 1) s86)))))
set_option maxHeartbeats 4000000 in
set_option maxRecDepth 100000 in
theorem w_X9_next1_163 {p : Program} {l : Launch} {e : Env} {s : State} {m : MethodId} {args : Array Value} {below : List Frame} {meth : Method} {c : Code} {A : Nat → Prop} {G : WD}  {τ : HS}  {k107 : Int32 → HS → Option HS} {x2 : Int32} {y1 : Int64} {σ : HS}  (hG : GX G mY) (hO0 : Ob G mY 0 8) (hP0 : Ob G mY 0 8) (hC : Cx mE G.1 G.2.1 mY cX9_next1 3 none RX9 wsX9_next1 p s m args meth c A) (hk107 : ∀ (x2 : Int32) (σ : HS), k107 x2 σ = some τ → V p l e rmX9_next1 s m args below meth c 3 A G mY 0 0 (MQ below (QV G mY A τ) args s 0 0 A) σ 107 [(0, .ref (G.2.2.1 0)), (2, .int x2)] []) (h : c_X9_next1_163 k107 x2 y1 σ = some τ) : V p l e rmX9_next1 s m args below meth c 3 A G mY 0 0 (MQ below (QV G mY A τ) args s 0 0 A) σ 163 [(0, .ref (G.2.2.1 0)), (2, .int x2)] [.long y1, .ref (G.2.2.1 0)] := by
  rw [c_X9_next1_163] at h
  refine v_putJ (C := RX9) (T := TX9) (N := 45) (ci := 8) (k := 17) hC hP0 hi_X9_next1_X9 rfl (by decide) (by decide) rfl rfl tyX9_ok nmX9 fl149_X9_next1 rfl rfl rfl dX9_next1_163 ?_
  obtain ⟨s84, e85, h⟩ := ld h
  refine V.eq e85 ?_
  refine v_iinc (v := (x2 + 1)) (L' := [(0, .ref (G.2.2.1 0)), (2, .int (x2 + 1))]) hC dX9_next1_166 1 rfl rfl (by decide) [1, 0] rfl ?_
  refine v_aload_n hC dX9_next1_169 0 rfl ?_
  refine v_dup hC dX9_next1_170 rfl ?_
  refine v_get (C := RX9) (T := TX9) (N := 45) (ci := 8) (k := 18) (v := .int (gI s84 0 18)) hC hO0 hi_X9_next1_X9 rfl (by decide) (by decide) rfl rfl fl133_X9_next1 dX9_next1_171 rfl ?_
  refine v_iconst (v := 1) hC dX9_next1_174 (by decide) ?_
  refine v_iadd hC dX9_next1_175 ?_
  refine v_putI (C := RX9) (T := TX9) (N := 45) (ci := 8) (k := 18) (ty := .int) hC hO0 hi_X9_next1_X9 rfl (by decide) (by decide) rfl rfl tyX9_ok nmX9 fl133_X9_next1 rfl rfl rfl rfl rfl dX9_next1_176 ?_
  obtain ⟨s86, e87, h⟩ := ld h
  refine V.eq e87 ?_
  refine v_goto (tgt := 107) hC dX9_next1_179 (by decide) ?_
  exact hk107 _ _ h
def c_X9_next1_107 : Nat → Int32 → HS → Option HS
  | 0, _, _ => none
  | n + 1, x2, σ => (bi2 (c_X9_byteAt (gI σ 0 18) σ) (fun r66 s65 => (bi2 (c_X9_in (Int32.toInt64 r66) 97 122 s65) (fun r69 s68 => (if r69 = 0 then (some s68) else (if 8 ≤ x2 then (c_X9_next1_163 (fun z0 z1 => c_X9_next1_107 n z0 z1) x2 (-1) s68) else (bi2 (c_X9_byteAt (gI s68 0 18) s68) (fun r74 s73 => (c_X9_next1_163 (fun z0 z1 => c_X9_next1_107 n z0 z1) x2 (((27 * (gJ s68 0 17)) + (Int32.toInt64 r74)) - 96) s73)))))))))
set_option maxHeartbeats 4000000 in
set_option maxRecDepth 100000 in
theorem w_X9_next1_107 {p : Program} {l : Launch} {e : Env} {s : State} {m : MethodId} {args : Array Value} {below : List Frame} {meth : Method} {c : Code} {A : Nat → Prop} {G : WD}  {τ : HS}   (hG : GX G mY) (hO0 : Ob G mY 0 8) (hC : Cx mE G.1 G.2.1 mY cX9_next1 3 none RX9 wsX9_next1 p s m args meth c A)  : ∀ (n : Nat) (x2 : Int32) (σ : HS), c_X9_next1_107 n x2 σ = some τ → V p l e rmX9_next1 s m args below meth c 3 A G mY 0 0 (MQ below (QV G mY A τ) args s 0 0 A) σ 107 [(0, .ref (G.2.2.1 0)), (2, .int x2)] [] := by
  intro n
  induction n with
  | zero => intro x2 σ h; exact nof h
  | succ n ih =>
    intro x2 σ h
    rw [c_X9_next1_107] at h
    refine v_aload_n hC dX9_next1_107 0 rfl ?_
    refine v_aload_n hC dX9_next1_108 0 rfl ?_
    refine v_get (C := RX9) (T := TX9) (N := 45) (ci := 8) (k := 18) (v := .int (gI σ 0 18)) hC hO0 hi_X9_next1_X9 rfl (by decide) (by decide) rfl rfl fl133_X9_next1 dX9_next1_109 rfl ?_
    obtain ⟨r66, s65, hc_64, h⟩ := bd2 h
    refine v_callVI hC mE_ok (n := 1) (As := [.int (gI σ 0 18)]) (k_X9_byteAt l hG (hO0) hc_64) (cwV 1 hC.1.2.2.2.2 gX9_next1_X9_byteAt rfl rfl rfl (by decide +kernel) ⟨(Nat.le_of_ble_eq_true rfl), (Nat.le_of_ble_eq_true rfl)⟩) hO0 (by decide) rfl rfl rfl (Nat.le_of_ble_eq_true rfl) ⟨Nat.zero_le _, Nat.zero_le _⟩ dX9_next1_112 rfl ?_
    refine v_i2l hC dX9_next1_115 ?_
    refine v_ldc2 (v := 97) hC lc145_X9_next1 dX9_next1_116 ?_
    refine v_ldc2 (v := 122) hC lc147_X9_next1 dX9_next1_119 ?_
    obtain ⟨r69, s68, hc_67, h⟩ := bd2 h
    refine v_callSI hC mE_ok (n := 3) (As := [.long (Int32.toInt64 r66), .long 97, .long 122]) (k_X9_in l hG hc_67) (va_cwS 3 hC.1.2.2.2.2 gX9_next1_X9_in rfl rfl rfl (by decide +kernel) ⟨(Nat.le_of_ble_eq_true rfl), (Nat.le_of_ble_eq_true rfl)⟩) rfl (Nat.le_of_ble_eq_true rfl) ⟨Nat.zero_le _, Nat.zero_le _⟩ dX9_next1_122 rfl ?_
    refine v_if_eq (tgt := 182) hC dX9_next1_125 (by decide) (fun c_70 => ?_) (fun c_70 => ?_)
    · replace h := ift c_70 h
      refine v_goto (tgt := 372) hC dX9_next1_182 (by decide) ?_
      exact v_vret hC rfl dX9_next1_372 h
    · replace h := ifn c_70 h
      refine v_aload_n hC dX9_next1_128 0 rfl ?_
      refine v_iload_n hC dX9_next1_129 1 rfl ?_
      refine v_bipush (v := 8) hC dX9_next1_130 (by decide) ?_
      refine v_icmp_ge (tgt := 160) hC dX9_next1_132 (by decide) (fun c_71 => ?_) (fun c_71 => ?_)
      · replace h := ift c_71 h
        refine v_ldc2 (v := (-1)) hC lc95_X9_next1 dX9_next1_160 ?_
        exact w_X9_next1_163 hG (hO0) (hO0) hC (fun _ _ h => ih _ _ h) h
      · replace h := ifn c_71 h
        refine v_ldc2 (v := 27) hC lc153_X9_next1 dX9_next1_135 ?_
        refine v_aload_n hC dX9_next1_138 0 rfl ?_
        refine v_get (C := RX9) (T := TX9) (N := 45) (ci := 8) (k := 17) (v := .long (gJ s68 0 17)) hC hO0 hi_X9_next1_X9 rfl (by decide) (by decide) rfl rfl fl149_X9_next1 dX9_next1_139 rfl ?_
        refine v_lmul hC dX9_next1_142 ?_
        refine v_aload_n hC dX9_next1_143 0 rfl ?_
        refine v_aload_n hC dX9_next1_144 0 rfl ?_
        refine v_get (C := RX9) (T := TX9) (N := 45) (ci := 8) (k := 18) (v := .int (gI s68 0 18)) hC hO0 hi_X9_next1_X9 rfl (by decide) (by decide) rfl rfl fl133_X9_next1 dX9_next1_145 rfl ?_
        obtain ⟨r74, s73, hc_72, h⟩ := bd2 h
        refine v_callVI hC mE_ok (n := 1) (As := [.int (gI s68 0 18)]) (k_X9_byteAt l hG (hO0) hc_72) (cwV 1 hC.1.2.2.2.2 gX9_next1_X9_byteAt rfl rfl rfl (by decide +kernel) ⟨(Nat.le_of_ble_eq_true rfl), (Nat.le_of_ble_eq_true rfl)⟩) hO0 (by decide) rfl rfl rfl (Nat.le_of_ble_eq_true rfl) ⟨Nat.zero_le _, Nat.zero_le _⟩ dX9_next1_148 rfl ?_
        refine v_i2l hC dX9_next1_151 ?_
        refine v_ladd hC dX9_next1_152 ?_
        refine v_ldc2 (v := 96) hC lc155_X9_next1 dX9_next1_153 ?_
        refine v_lsub hC dX9_next1_156 ?_
        refine v_goto (tgt := 163) hC dX9_next1_157 (by decide) ?_
        exact w_X9_next1_163 hG (hO0) (hO0) hC (fun _ _ h => ih _ _ h) h
def c_X9_next1_267 (k211 : Int32 → HS → Option HS) (x2 : Int32) (y1 : Int64) (σ : HS) : Option HS := (lt (sJ σ 0 17 y1) (fun s80 => (lt (sI s80 0 18 ((gI s80 0 18) + 1)) (fun s82 => (k211 (x2 + 1) s82)))))
set_option maxHeartbeats 4000000 in
set_option maxRecDepth 100000 in
theorem w_X9_next1_267 {p : Program} {l : Launch} {e : Env} {s : State} {m : MethodId} {args : Array Value} {below : List Frame} {meth : Method} {c : Code} {A : Nat → Prop} {G : WD}  {τ : HS}  {k211 : Int32 → HS → Option HS} {x2 : Int32} {y1 : Int64} {σ : HS}  (hG : GX G mY) (hO0 : Ob G mY 0 8) (hP0 : Ob G mY 0 8) (hC : Cx mE G.1 G.2.1 mY cX9_next1 3 none RX9 wsX9_next1 p s m args meth c A) (hk211 : ∀ (x2 : Int32) (σ : HS), k211 x2 σ = some τ → V p l e rmX9_next1 s m args below meth c 3 A G mY 0 0 (MQ below (QV G mY A τ) args s 0 0 A) σ 211 [(0, .ref (G.2.2.1 0)), (2, .int x2)] []) (h : c_X9_next1_267 k211 x2 y1 σ = some τ) : V p l e rmX9_next1 s m args below meth c 3 A G mY 0 0 (MQ below (QV G mY A τ) args s 0 0 A) σ 267 [(0, .ref (G.2.2.1 0)), (2, .int x2)] [.long y1, .ref (G.2.2.1 0)] := by
  rw [c_X9_next1_267] at h
  refine v_putJ (C := RX9) (T := TX9) (N := 45) (ci := 8) (k := 17) hC hP0 hi_X9_next1_X9 rfl (by decide) (by decide) rfl rfl tyX9_ok nmX9 fl149_X9_next1 rfl rfl rfl dX9_next1_267 ?_
  obtain ⟨s80, e81, h⟩ := ld h
  refine V.eq e81 ?_
  refine v_iinc (v := (x2 + 1)) (L' := [(0, .ref (G.2.2.1 0)), (2, .int (x2 + 1))]) hC dX9_next1_270 1 rfl rfl (by decide) [1, 0] rfl ?_
  refine v_aload_n hC dX9_next1_273 0 rfl ?_
  refine v_dup hC dX9_next1_274 rfl ?_
  refine v_get (C := RX9) (T := TX9) (N := 45) (ci := 8) (k := 18) (v := .int (gI s80 0 18)) hC hO0 hi_X9_next1_X9 rfl (by decide) (by decide) rfl rfl fl133_X9_next1 dX9_next1_275 rfl ?_
  refine v_iconst (v := 1) hC dX9_next1_278 (by decide) ?_
  refine v_iadd hC dX9_next1_279 ?_
  refine v_putI (C := RX9) (T := TX9) (N := 45) (ci := 8) (k := 18) (ty := .int) hC hO0 hi_X9_next1_X9 rfl (by decide) (by decide) rfl rfl tyX9_ok nmX9 fl133_X9_next1 rfl rfl rfl rfl rfl dX9_next1_280 ?_
  obtain ⟨s82, e83, h⟩ := ld h
  refine V.eq e83 ?_
  refine v_goto (tgt := 211) hC dX9_next1_283 (by decide) ?_
  exact hk211 _ _ h
def c_X9_next1_286 (x2 : Int32) (σ : HS) : Option HS := (if x2 ≤ 4 then (lt (sI σ 0 15 2) (fun s76 => (some s76))) else (lt (sI σ 0 15 4) (fun s78 => (some s78))))
set_option maxHeartbeats 4000000 in
set_option maxRecDepth 100000 in
theorem w_X9_next1_286 {p : Program} {l : Launch} {e : Env} {s : State} {m : MethodId} {args : Array Value} {below : List Frame} {meth : Method} {c : Code} {A : Nat → Prop} {G : WD}  {τ : HS}  {x2 : Int32} {σ : HS}  (hG : GX G mY) (hO0 : Ob G mY 0 8) (hC : Cx mE G.1 G.2.1 mY cX9_next1 3 none RX9 wsX9_next1 p s m args meth c A)  (h : c_X9_next1_286 x2 σ = some τ) : V p l e rmX9_next1 s m args below meth c 3 A G mY 0 0 (MQ below (QV G mY A τ) args s 0 0 A) σ 286 [(0, .ref (G.2.2.1 0)), (2, .int x2)] [] := by
  rw [c_X9_next1_286] at h
  refine v_aload_n hC dX9_next1_286 0 rfl ?_
  refine v_iload_n hC dX9_next1_287 1 rfl ?_
  refine v_iconst (v := 4) hC dX9_next1_288 (by decide) ?_
  refine v_icmp_le (tgt := 296) hC dX9_next1_289 (by decide) (fun c_75 => ?_) (fun c_75 => ?_)
  · replace h := ift c_75 h
    refine v_iconst (v := 2) hC dX9_next1_296 (by decide) ?_
    refine v_putI (C := RX9) (T := TX9) (N := 45) (ci := 8) (k := 15) (ty := .int) hC hO0 hi_X9_next1_X9 rfl (by decide) (by decide) rfl rfl tyX9_ok nmX9 fl142_X9_next1 rfl rfl rfl rfl rfl dX9_next1_297 ?_
    obtain ⟨s76, e77, h⟩ := ld h
    refine V.eq e77 ?_
    refine v_goto (tgt := 372) hC dX9_next1_300 (by decide) ?_
    exact v_vret hC rfl dX9_next1_372 h
  · replace h := ifn c_75 h
    refine v_iconst (v := 4) hC dX9_next1_292 (by decide) ?_
    refine v_goto (tgt := 297) hC dX9_next1_293 (by decide) ?_
    refine v_putI (C := RX9) (T := TX9) (N := 45) (ci := 8) (k := 15) (ty := .int) hC hO0 hi_X9_next1_X9 rfl (by decide) (by decide) rfl rfl tyX9_ok nmX9 fl142_X9_next1 rfl rfl rfl rfl rfl dX9_next1_297 ?_
    obtain ⟨s78, e79, h⟩ := ld h
    refine V.eq e79 ?_
    refine v_goto (tgt := 372) hC dX9_next1_300 (by decide) ?_
    exact v_vret hC rfl dX9_next1_372 h
def c_X9_next1_211 : Nat → Int32 → HS → Option HS
  | 0, _, _ => none
  | n + 1, x2, σ => (bi2 (c_X9_byteAt (gI σ 0 18) σ) (fun r55 s54 => (bi2 (c_X9_in (Int32.toInt64 r55) 48 57 s54) (fun r58 s57 => (if r58 = 0 then (c_X9_next1_286 x2 s57) else (if 4 ≤ x2 then (c_X9_next1_267 (fun z0 z1 => c_X9_next1_211 n z0 z1) x2 (gJ s57 0 17) s57) else (bi2 (c_X9_byteAt (gI s57 0 18) s57) (fun r63 s62 => (c_X9_next1_267 (fun z0 z1 => c_X9_next1_211 n z0 z1) x2 (((10 * (gJ s57 0 17)) + (Int32.toInt64 r63)) - 48) s62)))))))))
set_option maxHeartbeats 4000000 in
set_option maxRecDepth 100000 in
theorem w_X9_next1_211 {p : Program} {l : Launch} {e : Env} {s : State} {m : MethodId} {args : Array Value} {below : List Frame} {meth : Method} {c : Code} {A : Nat → Prop} {G : WD}  {τ : HS}   (hG : GX G mY) (hO0 : Ob G mY 0 8) (hC : Cx mE G.1 G.2.1 mY cX9_next1 3 none RX9 wsX9_next1 p s m args meth c A)  : ∀ (n : Nat) (x2 : Int32) (σ : HS), c_X9_next1_211 n x2 σ = some τ → V p l e rmX9_next1 s m args below meth c 3 A G mY 0 0 (MQ below (QV G mY A τ) args s 0 0 A) σ 211 [(0, .ref (G.2.2.1 0)), (2, .int x2)] [] := by
  intro n
  induction n with
  | zero => intro x2 σ h; exact nof h
  | succ n ih =>
    intro x2 σ h
    rw [c_X9_next1_211] at h
    refine v_aload_n hC dX9_next1_211 0 rfl ?_
    refine v_aload_n hC dX9_next1_212 0 rfl ?_
    refine v_get (C := RX9) (T := TX9) (N := 45) (ci := 8) (k := 18) (v := .int (gI σ 0 18)) hC hO0 hi_X9_next1_X9 rfl (by decide) (by decide) rfl rfl fl133_X9_next1 dX9_next1_213 rfl ?_
    obtain ⟨r55, s54, hc_53, h⟩ := bd2 h
    refine v_callVI hC mE_ok (n := 1) (As := [.int (gI σ 0 18)]) (k_X9_byteAt l hG (hO0) hc_53) (cwV 1 hC.1.2.2.2.2 gX9_next1_X9_byteAt rfl rfl rfl (by decide +kernel) ⟨(Nat.le_of_ble_eq_true rfl), (Nat.le_of_ble_eq_true rfl)⟩) hO0 (by decide) rfl rfl rfl (Nat.le_of_ble_eq_true rfl) ⟨Nat.zero_le _, Nat.zero_le _⟩ dX9_next1_216 rfl ?_
    refine v_i2l hC dX9_next1_219 ?_
    refine v_ldc2 (v := 48) hC lc157_X9_next1 dX9_next1_220 ?_
    refine v_ldc2 (v := 57) hC lc159_X9_next1 dX9_next1_223 ?_
    obtain ⟨r58, s57, hc_56, h⟩ := bd2 h
    refine v_callSI hC mE_ok (n := 3) (As := [.long (Int32.toInt64 r55), .long 48, .long 57]) (k_X9_in l hG hc_56) (va_cwS 3 hC.1.2.2.2.2 gX9_next1_X9_in rfl rfl rfl (by decide +kernel) ⟨(Nat.le_of_ble_eq_true rfl), (Nat.le_of_ble_eq_true rfl)⟩) rfl (Nat.le_of_ble_eq_true rfl) ⟨Nat.zero_le _, Nat.zero_le _⟩ dX9_next1_226 rfl ?_
    refine v_if_eq (tgt := 286) hC dX9_next1_229 (by decide) (fun c_59 => ?_) (fun c_59 => ?_)
    · replace h := ift c_59 h
      exact w_X9_next1_286 hG (hO0) hC h
    · replace h := ifn c_59 h
      refine v_aload_n hC dX9_next1_232 0 rfl ?_
      refine v_iload_n hC dX9_next1_233 1 rfl ?_
      refine v_iconst (v := 4) hC dX9_next1_234 (by decide) ?_
      refine v_icmp_ge (tgt := 263) hC dX9_next1_235 (by decide) (fun c_60 => ?_) (fun c_60 => ?_)
      · replace h := ift c_60 h
        refine v_aload_n hC dX9_next1_263 0 rfl ?_
        refine v_get (C := RX9) (T := TX9) (N := 45) (ci := 8) (k := 17) (v := .long (gJ s57 0 17)) hC hO0 hi_X9_next1_X9 rfl (by decide) (by decide) rfl rfl fl149_X9_next1 dX9_next1_264 rfl ?_
        exact w_X9_next1_267 hG (hO0) (hO0) hC (fun _ _ h => ih _ _ h) h
      · replace h := ifn c_60 h
        refine v_ldc2 (v := 10) hC lc161_X9_next1 dX9_next1_238 ?_
        refine v_aload_n hC dX9_next1_241 0 rfl ?_
        refine v_get (C := RX9) (T := TX9) (N := 45) (ci := 8) (k := 17) (v := .long (gJ s57 0 17)) hC hO0 hi_X9_next1_X9 rfl (by decide) (by decide) rfl rfl fl149_X9_next1 dX9_next1_242 rfl ?_
        refine v_lmul hC dX9_next1_245 ?_
        refine v_aload_n hC dX9_next1_246 0 rfl ?_
        refine v_aload_n hC dX9_next1_247 0 rfl ?_
        refine v_get (C := RX9) (T := TX9) (N := 45) (ci := 8) (k := 18) (v := .int (gI s57 0 18)) hC hO0 hi_X9_next1_X9 rfl (by decide) (by decide) rfl rfl fl133_X9_next1 dX9_next1_248 rfl ?_
        obtain ⟨r63, s62, hc_61, h⟩ := bd2 h
        refine v_callVI hC mE_ok (n := 1) (As := [.int (gI s57 0 18)]) (k_X9_byteAt l hG (hO0) hc_61) (cwV 1 hC.1.2.2.2.2 gX9_next1_X9_byteAt rfl rfl rfl (by decide +kernel) ⟨(Nat.le_of_ble_eq_true rfl), (Nat.le_of_ble_eq_true rfl)⟩) hO0 (by decide) rfl rfl rfl (Nat.le_of_ble_eq_true rfl) ⟨Nat.zero_le _, Nat.zero_le _⟩ dX9_next1_251 rfl ?_
        refine v_i2l hC dX9_next1_254 ?_
        refine v_ladd hC dX9_next1_255 ?_
        refine v_ldc2 (v := 48) hC lc157_X9_next1 dX9_next1_256 ?_
        refine v_lsub hC dX9_next1_259 ?_
        refine v_goto (tgt := 267) hC dX9_next1_260 (by decide) ?_
        exact w_X9_next1_267 hG (hO0) (hO0) hC (fun _ _ h => ih _ _ h) h
def c_X9_next1_351 (x1 : Int32) (σ : HS) : Option HS := (lt (sI σ 0 15 3) (fun s47 => (lt (sJ s47 0 17 (Int32.toInt64 x1)) (fun s49 => (lt (sI s49 0 18 ((gI s49 0 18) + 1)) (fun s51 => (some s51)))))))
set_option maxHeartbeats 4000000 in
set_option maxRecDepth 100000 in
theorem w_X9_next1_351 {p : Program} {l : Launch} {e : Env} {s : State} {m : MethodId} {args : Array Value} {below : List Frame} {meth : Method} {c : Code} {A : Nat → Prop} {G : WD}  {τ : HS}  {x1 : Int32} {σ : HS}  (hG : GX G mY) (hO0 : Ob G mY 0 8) (hC : Cx mE G.1 G.2.1 mY cX9_next1 3 none RX9 wsX9_next1 p s m args meth c A)  (h : c_X9_next1_351 x1 σ = some τ) : V p l e rmX9_next1 s m args below meth c 3 A G mY 0 0 (MQ below (QV G mY A τ) args s 0 0 A) σ 351 [(0, .ref (G.2.2.1 0)), (1, .int x1)] [] := by
  rw [c_X9_next1_351] at h
  refine v_aload_n hC dX9_next1_351 0 rfl ?_
  refine v_iconst (v := 3) hC dX9_next1_352 (by decide) ?_
  refine v_putI (C := RX9) (T := TX9) (N := 45) (ci := 8) (k := 15) (ty := .int) hC hO0 hi_X9_next1_X9 rfl (by decide) (by decide) rfl rfl tyX9_ok nmX9 fl142_X9_next1 rfl rfl rfl rfl rfl dX9_next1_353 ?_
  obtain ⟨s47, e48, h⟩ := ld h
  refine V.eq e48 ?_
  refine v_aload_n hC dX9_next1_356 0 rfl ?_
  refine v_iload_n hC dX9_next1_357 1 rfl ?_
  refine v_i2l hC dX9_next1_358 ?_
  refine v_putJ (C := RX9) (T := TX9) (N := 45) (ci := 8) (k := 17) hC hO0 hi_X9_next1_X9 rfl (by decide) (by decide) rfl rfl tyX9_ok nmX9 fl149_X9_next1 rfl rfl rfl dX9_next1_359 ?_
  obtain ⟨s49, e50, h⟩ := ld h
  refine V.eq e50 ?_
  refine v_aload_n hC dX9_next1_362 0 rfl ?_
  refine v_dup hC dX9_next1_363 rfl ?_
  refine v_get (C := RX9) (T := TX9) (N := 45) (ci := 8) (k := 18) (v := .int (gI s49 0 18)) hC hO0 hi_X9_next1_X9 rfl (by decide) (by decide) rfl rfl fl133_X9_next1 dX9_next1_364 rfl ?_
  refine v_iconst (v := 1) hC dX9_next1_367 (by decide) ?_
  refine v_iadd hC dX9_next1_368 ?_
  refine v_putI (C := RX9) (T := TX9) (N := 45) (ci := 8) (k := 18) (ty := .int) hC hO0 hi_X9_next1_X9 rfl (by decide) (by decide) rfl rfl tyX9_ok nmX9 fl133_X9_next1 rfl rfl rfl rfl rfl dX9_next1_369 ?_
  obtain ⟨s51, e52, h⟩ := ld h
  refine V.eq e52 ?_
  exact v_vret hC rfl dX9_next1_372 h
def c_X9_next1_39 (σ : HS) : Option HS := (lt (sI σ 0 16 (gI σ 0 18)) (fun s11 => (bi2 (c_X9_byteAt (gI s11 0 18) s11) (fun r15 s14 => (lt (sI s14 0 15 4) (fun s16 => (if 0 ≤ r15 then (bi2 (c_X9_in (Int32.toInt64 r15) 97 122 s16) (fun r21 s20 => (if r21 = 0 then (bi2 (c_X9_in (Int32.toInt64 r15) 48 57 s20) (fun r25 s24 => (if r25 = 0 then (if r15 = 40 then (c_X9_next1_351 r15 s24) else (if r15 = 41 then (c_X9_next1_351 r15 s24) else (if r15 = 59 then (c_X9_next1_351 r15 s24) else (if r15 = 43 then (c_X9_next1_351 r15 s24) else (if r15 = 45 then (c_X9_next1_351 r15 s24) else (if r15 = 42 then (c_X9_next1_351 r15 s24) else (if r15 = 60 then (c_X9_next1_351 r15 s24) else (if r15 = 61 then (c_X9_next1_351 r15 s24) else (some s24))))))))) else (lt (sI s24 0 15 2) (fun s35 => (lt (sJ s35 0 17 0) (fun s37 => (c_X9_next1_211 FU 0 s37)))))))) else (lt (sI s20 0 15 1) (fun s39 => (lt (sJ s39 0 17 0) (fun s41 => (c_X9_next1_107 FU 0 s41)))))))) else (lt (sI s16 0 15 0) (fun s43 => (lt (sI s43 0 16 (gI s43 0 14)) (fun s45 => (some s45))))))))))))
set_option maxHeartbeats 4000000 in
set_option maxRecDepth 100000 in
theorem w_X9_next1_39 {p : Program} {l : Launch} {e : Env} {s : State} {m : MethodId} {args : Array Value} {below : List Frame} {meth : Method} {c : Code} {A : Nat → Prop} {G : WD}  {τ : HS}   {σ : HS}  (hG : GX G mY) (hO0 : Ob G mY 0 8) (hC : Cx mE G.1 G.2.1 mY cX9_next1 3 none RX9 wsX9_next1 p s m args meth c A)  (h : c_X9_next1_39  σ = some τ) : V p l e rmX9_next1 s m args below meth c 3 A G mY 0 0 (MQ below (QV G mY A τ) args s 0 0 A) σ 39 [(0, .ref (G.2.2.1 0))] [] := by
  rw [c_X9_next1_39] at h
  refine v_aload_n hC dX9_next1_39 0 rfl ?_
  refine v_aload_n hC dX9_next1_40 0 rfl ?_
  refine v_get (C := RX9) (T := TX9) (N := 45) (ci := 8) (k := 18) (v := .int (gI σ 0 18)) hC hO0 hi_X9_next1_X9 rfl (by decide) (by decide) rfl rfl fl133_X9_next1 dX9_next1_41 rfl ?_
  refine v_putI (C := RX9) (T := TX9) (N := 45) (ci := 8) (k := 16) (ty := .int) hC hO0 hi_X9_next1_X9 rfl (by decide) (by decide) rfl rfl tyX9_ok nmX9 fl139_X9_next1 rfl rfl rfl rfl rfl dX9_next1_44 ?_
  obtain ⟨s11, e12, h⟩ := ld h
  refine V.eq e12 ?_
  refine v_aload_n hC dX9_next1_47 0 rfl ?_
  refine v_aload_n hC dX9_next1_48 0 rfl ?_
  refine v_get (C := RX9) (T := TX9) (N := 45) (ci := 8) (k := 18) (v := .int (gI s11 0 18)) hC hO0 hi_X9_next1_X9 rfl (by decide) (by decide) rfl rfl fl133_X9_next1 dX9_next1_49 rfl ?_
  obtain ⟨r15, s14, hc_13, h⟩ := bd2 h
  refine v_callVI hC mE_ok (n := 1) (As := [.int (gI s11 0 18)]) (k_X9_byteAt l hG (hO0) hc_13) (cwV 1 hC.1.2.2.2.2 gX9_next1_X9_byteAt rfl rfl rfl (by decide +kernel) ⟨(Nat.le_of_ble_eq_true rfl), (Nat.le_of_ble_eq_true rfl)⟩) hO0 (by decide) rfl rfl rfl (Nat.le_of_ble_eq_true rfl) ⟨Nat.zero_le _, Nat.zero_le _⟩ dX9_next1_52 rfl ?_
  refine v_istore_n (L' := [(0, .ref (G.2.2.1 0)), (1, .int r15)]) hC dX9_next1_55 (by decide) [1, 0] rfl ?_
  refine v_aload_n hC dX9_next1_56 0 rfl ?_
  refine v_iconst (v := 4) hC dX9_next1_57 (by decide) ?_
  refine v_putI (C := RX9) (T := TX9) (N := 45) (ci := 8) (k := 15) (ty := .int) hC hO0 hi_X9_next1_X9 rfl (by decide) (by decide) rfl rfl tyX9_ok nmX9 fl142_X9_next1 rfl rfl rfl rfl rfl dX9_next1_58 ?_
  obtain ⟨s16, e17, h⟩ := ld h
  refine V.eq e17 ?_
  refine v_iload_n hC dX9_next1_61 1 rfl ?_
  refine v_if_ge (tgt := 81) hC dX9_next1_62 (by decide) (fun c_18 => ?_) (fun c_18 => ?_)
  · replace h := ift c_18 h
    refine v_iload_n hC dX9_next1_81 1 rfl ?_
    refine v_i2l hC dX9_next1_82 ?_
    refine v_ldc2 (v := 97) hC lc145_X9_next1 dX9_next1_83 ?_
    refine v_ldc2 (v := 122) hC lc147_X9_next1 dX9_next1_86 ?_
    obtain ⟨r21, s20, hc_19, h⟩ := bd2 h
    refine v_callSI hC mE_ok (n := 3) (As := [.long (Int32.toInt64 r15), .long 97, .long 122]) (k_X9_in l hG hc_19) (va_cwS 3 hC.1.2.2.2.2 gX9_next1_X9_in rfl rfl rfl (by decide +kernel) ⟨(Nat.le_of_ble_eq_true rfl), (Nat.le_of_ble_eq_true rfl)⟩) rfl (Nat.le_of_ble_eq_true rfl) ⟨Nat.zero_le _, Nat.zero_le _⟩ dX9_next1_89 rfl ?_
    refine v_if_eq (tgt := 185) hC dX9_next1_92 (by decide) (fun c_22 => ?_) (fun c_22 => ?_)
    · replace h := ift c_22 h
      refine v_iload_n hC dX9_next1_185 1 rfl ?_
      refine v_i2l hC dX9_next1_186 ?_
      refine v_ldc2 (v := 48) hC lc157_X9_next1 dX9_next1_187 ?_
      refine v_ldc2 (v := 57) hC lc159_X9_next1 dX9_next1_190 ?_
      obtain ⟨r25, s24, hc_23, h⟩ := bd2 h
      refine v_callSI hC mE_ok (n := 3) (As := [.long (Int32.toInt64 r15), .long 48, .long 57]) (k_X9_in l hG hc_23) (va_cwS 3 hC.1.2.2.2.2 gX9_next1_X9_in rfl rfl rfl (by decide +kernel) ⟨(Nat.le_of_ble_eq_true rfl), (Nat.le_of_ble_eq_true rfl)⟩) rfl (Nat.le_of_ble_eq_true rfl) ⟨Nat.zero_le _, Nat.zero_le _⟩ dX9_next1_193 rfl ?_
      refine v_if_eq (tgt := 303) hC dX9_next1_196 (by decide) (fun c_26 => ?_) (fun c_26 => ?_)
      · replace h := ift c_26 h
        refine v_iload_n hC dX9_next1_303 1 rfl ?_
        refine v_bipush (v := 40) hC dX9_next1_304 (by decide) ?_
        refine v_icmp_eq (tgt := 351) hC dX9_next1_306 (by decide) (fun c_27 => ?_) (fun c_27 => ?_)
        · replace h := ift c_27 h
          exact w_X9_next1_351 hG (hO0) hC h
        · replace h := ifn c_27 h
          refine v_iload_n hC dX9_next1_309 1 rfl ?_
          refine v_bipush (v := 41) hC dX9_next1_310 (by decide) ?_
          refine v_icmp_eq (tgt := 351) hC dX9_next1_312 (by decide) (fun c_28 => ?_) (fun c_28 => ?_)
          · replace h := ift c_28 h
            exact w_X9_next1_351 hG (hO0) hC h
          · replace h := ifn c_28 h
            refine v_iload_n hC dX9_next1_315 1 rfl ?_
            refine v_bipush (v := 59) hC dX9_next1_316 (by decide) ?_
            refine v_icmp_eq (tgt := 351) hC dX9_next1_318 (by decide) (fun c_29 => ?_) (fun c_29 => ?_)
            · replace h := ift c_29 h
              exact w_X9_next1_351 hG (hO0) hC h
            · replace h := ifn c_29 h
              refine v_iload_n hC dX9_next1_321 1 rfl ?_
              refine v_bipush (v := 43) hC dX9_next1_322 (by decide) ?_
              refine v_icmp_eq (tgt := 351) hC dX9_next1_324 (by decide) (fun c_30 => ?_) (fun c_30 => ?_)
              · replace h := ift c_30 h
                exact w_X9_next1_351 hG (hO0) hC h
              · replace h := ifn c_30 h
                refine v_iload_n hC dX9_next1_327 1 rfl ?_
                refine v_bipush (v := 45) hC dX9_next1_328 (by decide) ?_
                refine v_icmp_eq (tgt := 351) hC dX9_next1_330 (by decide) (fun c_31 => ?_) (fun c_31 => ?_)
                · replace h := ift c_31 h
                  exact w_X9_next1_351 hG (hO0) hC h
                · replace h := ifn c_31 h
                  refine v_iload_n hC dX9_next1_333 1 rfl ?_
                  refine v_bipush (v := 42) hC dX9_next1_334 (by decide) ?_
                  refine v_icmp_eq (tgt := 351) hC dX9_next1_336 (by decide) (fun c_32 => ?_) (fun c_32 => ?_)
                  · replace h := ift c_32 h
                    exact w_X9_next1_351 hG (hO0) hC h
                  · replace h := ifn c_32 h
                    refine v_iload_n hC dX9_next1_339 1 rfl ?_
                    refine v_bipush (v := 60) hC dX9_next1_340 (by decide) ?_
                    refine v_icmp_eq (tgt := 351) hC dX9_next1_342 (by decide) (fun c_33 => ?_) (fun c_33 => ?_)
                    · replace h := ift c_33 h
                      exact w_X9_next1_351 hG (hO0) hC h
                    · replace h := ifn c_33 h
                      refine v_iload_n hC dX9_next1_345 1 rfl ?_
                      refine v_bipush (v := 61) hC dX9_next1_346 (by decide) ?_
                      refine v_icmp_ne (tgt := 372) hC dX9_next1_348 (by decide) (fun c_34 => ?_) (fun c_34 => ?_)
                      · replace h := ifn c_34 h
                        exact v_vret hC rfl dX9_next1_372 h
                      · replace h := ift c_34 h
                        exact w_X9_next1_351 hG (hO0) hC h
      · replace h := ifn c_26 h
        refine v_aload_n hC dX9_next1_199 0 rfl ?_
        refine v_iconst (v := 2) hC dX9_next1_200 (by decide) ?_
        refine v_putI (C := RX9) (T := TX9) (N := 45) (ci := 8) (k := 15) (ty := .int) hC hO0 hi_X9_next1_X9 rfl (by decide) (by decide) rfl rfl tyX9_ok nmX9 fl142_X9_next1 rfl rfl rfl rfl rfl dX9_next1_201 ?_
        obtain ⟨s35, e36, h⟩ := ld h
        refine V.eq e36 ?_
        refine v_aload_n hC dX9_next1_204 0 rfl ?_
        refine v_lconst (v := 0) hC dX9_next1_205 (by decide) ?_
        refine v_putJ (C := RX9) (T := TX9) (N := 45) (ci := 8) (k := 17) hC hO0 hi_X9_next1_X9 rfl (by decide) (by decide) rfl rfl tyX9_ok nmX9 fl149_X9_next1 rfl rfl rfl dX9_next1_206 ?_
        obtain ⟨s37, e38, h⟩ := ld h
        refine V.eq e38 ?_
        refine v_iconst (v := 0) hC dX9_next1_209 (by decide) ?_
        refine v_istore_n (L' := [(0, .ref (G.2.2.1 0)), (2, .int 0)]) hC dX9_next1_210 (by decide) [1, 0] rfl ?_
        exact w_X9_next1_211 hG (hO0) hC FU _ _ h
    · replace h := ifn c_22 h
      refine v_aload_n hC dX9_next1_95 0 rfl ?_
      refine v_iconst (v := 1) hC dX9_next1_96 (by decide) ?_
      refine v_putI (C := RX9) (T := TX9) (N := 45) (ci := 8) (k := 15) (ty := .int) hC hO0 hi_X9_next1_X9 rfl (by decide) (by decide) rfl rfl tyX9_ok nmX9 fl142_X9_next1 rfl rfl rfl rfl rfl dX9_next1_97 ?_
      obtain ⟨s39, e40, h⟩ := ld h
      refine V.eq e40 ?_
      refine v_aload_n hC dX9_next1_100 0 rfl ?_
      refine v_lconst (v := 0) hC dX9_next1_101 (by decide) ?_
      refine v_putJ (C := RX9) (T := TX9) (N := 45) (ci := 8) (k := 17) hC hO0 hi_X9_next1_X9 rfl (by decide) (by decide) rfl rfl tyX9_ok nmX9 fl149_X9_next1 rfl rfl rfl dX9_next1_102 ?_
      obtain ⟨s41, e42, h⟩ := ld h
      refine V.eq e42 ?_
      refine v_iconst (v := 0) hC dX9_next1_105 (by decide) ?_
      refine v_istore_n (L' := [(0, .ref (G.2.2.1 0)), (2, .int 0)]) hC dX9_next1_106 (by decide) [1, 0] rfl ?_
      exact w_X9_next1_107 hG (hO0) hC FU _ _ h
  · replace h := ifn c_18 h
    refine v_aload_n hC dX9_next1_65 0 rfl ?_
    refine v_iconst (v := 0) hC dX9_next1_66 (by decide) ?_
    refine v_putI (C := RX9) (T := TX9) (N := 45) (ci := 8) (k := 15) (ty := .int) hC hO0 hi_X9_next1_X9 rfl (by decide) (by decide) rfl rfl tyX9_ok nmX9 fl142_X9_next1 rfl rfl rfl rfl rfl dX9_next1_67 ?_
    obtain ⟨s43, e44, h⟩ := ld h
    refine V.eq e44 ?_
    refine v_aload_n hC dX9_next1_70 0 rfl ?_
    refine v_aload_n hC dX9_next1_71 0 rfl ?_
    refine v_get (C := RX9) (T := TX9) (N := 45) (ci := 8) (k := 14) (v := .int (gI s43 0 14)) hC hO0 hi_X9_next1_X9 rfl (by decide) (by decide) rfl rfl fl127_X9_next1 dX9_next1_72 rfl ?_
    refine v_putI (C := RX9) (T := TX9) (N := 45) (ci := 8) (k := 16) (ty := .int) hC hO0 hi_X9_next1_X9 rfl (by decide) (by decide) rfl rfl tyX9_ok nmX9 fl139_X9_next1 rfl rfl rfl rfl rfl dX9_next1_75 ?_
    obtain ⟨s45, e46, h⟩ := ld h
    refine V.eq e46 ?_
    refine v_goto (tgt := 372) hC dX9_next1_78 (by decide) ?_
    exact v_vret hC rfl dX9_next1_372 h
def c_X9_next1_0 : Nat → HS → Option HS
  | 0, _ => none
  | n + 1, σ => (bi2 (c_X9_byteAt (gI σ 0 18) σ) (fun r3 s2 => (if r3 = 32 then (c_X9_next1_26 (fun z0 => c_X9_next1_0 n z0) s2) else (bi2 (c_X9_byteAt (gI s2 0 18) s2) (fun r7 s6 => (if r7 = 10 then (c_X9_next1_26 (fun z0 => c_X9_next1_0 n z0) s6) else (c_X9_next1_39 s6)))))))
set_option maxHeartbeats 4000000 in
set_option maxRecDepth 100000 in
theorem w_X9_next1_0 {p : Program} {l : Launch} {e : Env} {s : State} {m : MethodId} {args : Array Value} {below : List Frame} {meth : Method} {c : Code} {A : Nat → Prop} {G : WD}  {τ : HS}   (hG : GX G mY) (hO0 : Ob G mY 0 8) (hC : Cx mE G.1 G.2.1 mY cX9_next1 3 none RX9 wsX9_next1 p s m args meth c A)  : ∀ (n : Nat)  (σ : HS), c_X9_next1_0 n  σ = some τ → V p l e rmX9_next1 s m args below meth c 3 A G mY 0 0 (MQ below (QV G mY A τ) args s 0 0 A) σ 0 [(0, .ref (G.2.2.1 0))] [] := by
  intro n
  induction n with
  | zero => intro  σ h; exact nof h
  | succ n ih =>
    intro  σ h
    rw [c_X9_next1_0] at h
    refine v_aload_n hC dX9_next1_0 0 rfl ?_
    refine v_aload_n hC dX9_next1_1 0 rfl ?_
    refine v_get (C := RX9) (T := TX9) (N := 45) (ci := 8) (k := 18) (v := .int (gI σ 0 18)) hC hO0 hi_X9_next1_X9 rfl (by decide) (by decide) rfl rfl fl133_X9_next1 dX9_next1_2 rfl ?_
    obtain ⟨r3, s2, hc_1, h⟩ := bd2 h
    refine v_callVI hC mE_ok (n := 1) (As := [.int (gI σ 0 18)]) (k_X9_byteAt l hG (hO0) hc_1) (cwV 1 hC.1.2.2.2.2 gX9_next1_X9_byteAt rfl rfl rfl (by decide +kernel) ⟨(Nat.le_of_ble_eq_true rfl), (Nat.le_of_ble_eq_true rfl)⟩) hO0 (by decide) rfl rfl rfl (Nat.le_of_ble_eq_true rfl) ⟨Nat.zero_le _, Nat.zero_le _⟩ dX9_next1_5 rfl ?_
    refine v_bipush (v := 32) hC dX9_next1_8 (by decide) ?_
    refine v_icmp_eq (tgt := 26) hC dX9_next1_10 (by decide) (fun c_4 => ?_) (fun c_4 => ?_)
    · replace h := ift c_4 h
      exact w_X9_next1_26 hG (hO0) hC (fun _ h => ih _ h) h
    · replace h := ifn c_4 h
      refine v_aload_n hC dX9_next1_13 0 rfl ?_
      refine v_aload_n hC dX9_next1_14 0 rfl ?_
      refine v_get (C := RX9) (T := TX9) (N := 45) (ci := 8) (k := 18) (v := .int (gI s2 0 18)) hC hO0 hi_X9_next1_X9 rfl (by decide) (by decide) rfl rfl fl133_X9_next1 dX9_next1_15 rfl ?_
      obtain ⟨r7, s6, hc_5, h⟩ := bd2 h
      refine v_callVI hC mE_ok (n := 1) (As := [.int (gI s2 0 18)]) (k_X9_byteAt l hG (hO0) hc_5) (cwV 1 hC.1.2.2.2.2 gX9_next1_X9_byteAt rfl rfl rfl (by decide +kernel) ⟨(Nat.le_of_ble_eq_true rfl), (Nat.le_of_ble_eq_true rfl)⟩) hO0 (by decide) rfl rfl rfl (Nat.le_of_ble_eq_true rfl) ⟨Nat.zero_le _, Nat.zero_le _⟩ dX9_next1_18 rfl ?_
      refine v_bipush (v := 10) hC dX9_next1_21 (by decide) ?_
      refine v_icmp_ne (tgt := 39) hC dX9_next1_23 (by decide) (fun c_8 => ?_) (fun c_8 => ?_)
      · replace h := ifn c_8 h
        exact w_X9_next1_39 hG (hO0) hC h
      · replace h := ift c_8 h
        exact w_X9_next1_26 hG (hO0) hC (fun _ h => ih _ h) h
def c_X9_next1 (σ : HS) : Option HS := (c_X9_next1_0 FU σ)
set_option maxHeartbeats 4000000 in
set_option maxRecDepth 100000 in
theorem w_X9_next1 {p : Program} {l : Launch} {e : Env} {s : State} {m : MethodId} {args : Array Value} {below : List Frame} {meth : Method} {c : Code} {A : Nat → Prop} {G : WD}  {τ : HS}  {σ : HS}  (hG : GX G mY) (hO0 : Ob G mY 0 8) (hC : Cx mE G.1 G.2.1 mY cX9_next1 3 none RX9 wsX9_next1 p s m args meth c A) (h : c_X9_next1  σ = some τ) : V p l e rmX9_next1 s m args below meth c 3 A G mY 0 0 (MQ below (QV G mY A τ) args s 0 0 A) σ 0 [(0, .ref (G.2.2.1 0))] [] := by
  rw [c_X9_next1] at h
  exact w_X9_next1_0 hG (hO0) hC FU _ h
theorem k_X9_next1 (l : Launch) {G : WD}   {τ : HS}  {σ : HS}  (hG : GX G mY) (hO0 : Ob G mY 0 8) (h : c_X9_next1  σ = some τ) : MV mE l yX9_next1 wsX9_next1 rmX9_next1 G mY [.ref (G.2.2.1 0)] σ τ :=
  MV.of RX9 (by decide) rfl rfl (Nat.le_of_ble_eq_true rfl) rfl rfl (fun p e s m below meth c hC => w_X9_next1  hG hO0 hC h)
abbrev rmX9_fail : Room := { frames := 0, cells := 0, slots := 0, locals := 0 }
def c_X9_fail (σ : HS) : Option HS := (if (gI σ 0 20) = 0 then (lt (sI σ 0 20 1) (fun s2 => (lt (sI s2 0 21 (gI s2 0 16)) (fun s4 => (some s4))))) else (some σ))
set_option maxHeartbeats 4000000 in
set_option maxRecDepth 100000 in
theorem w_X9_fail {p : Program} {l : Launch} {e : Env} {s : State} {m : MethodId} {args : Array Value} {below : List Frame} {meth : Method} {c : Code} {A : Nat → Prop} {G : WD}  {τ : HS}  {σ : HS}  (hG : GX G mY) (hO0 : Ob G mY 0 8) (hC : Cx mE G.1 G.2.1 mY cX9_fail 1 none RX9 wsX9_fail p s m args meth c A) (h : c_X9_fail  σ = some τ) : V p l e rmX9_fail s m args below meth c 1 A G mY 0 0 (MQ below (QV G mY A τ) args s 0 0 A) σ 0 [(0, .ref (G.2.2.1 0))] [] := by
  rw [c_X9_fail] at h
  refine v_aload_n hC dX9_fail_0 0 rfl ?_
  refine v_get (C := RX9) (T := TX9) (N := 45) (ci := 8) (k := 20) (v := .int (gI σ 0 20)) hC hO0 hi_X9_fail_X9 rfl (by decide) (by decide) rfl rfl fl163_X9_fail dX9_fail_1 rfl ?_
  refine v_if_ne (tgt := 20) hC dX9_fail_4 (by decide) (fun c_1 => ?_) (fun c_1 => ?_)
  · replace h := ifn c_1 h
    exact v_vret hC rfl dX9_fail_20 h
  · replace h := ift c_1 h
    refine v_aload_n hC dX9_fail_7 0 rfl ?_
    refine v_iconst (v := 1) hC dX9_fail_8 (by decide) ?_
    refine v_putI (C := RX9) (T := TX9) (N := 45) (ci := 8) (k := 20) (ty := .boolean) hC hO0 hi_X9_fail_X9 rfl (by decide) (by decide) rfl rfl tyX9_ok nmX9 fl163_X9_fail rfl rfl rfl rfl rfl dX9_fail_9 ?_
    obtain ⟨s2, e3, h⟩ := ld h
    refine V.eq e3 ?_
    refine v_aload_n hC dX9_fail_12 0 rfl ?_
    refine v_aload_n hC dX9_fail_13 0 rfl ?_
    refine v_get (C := RX9) (T := TX9) (N := 45) (ci := 8) (k := 16) (v := .int (gI s2 0 16)) hC hO0 hi_X9_fail_X9 rfl (by decide) (by decide) rfl rfl fl139_X9_fail dX9_fail_14 rfl ?_
    refine v_putI (C := RX9) (T := TX9) (N := 45) (ci := 8) (k := 21) (ty := .int) hC hO0 hi_X9_fail_X9 rfl (by decide) (by decide) rfl rfl tyX9_ok nmX9 fl167_X9_fail rfl rfl rfl rfl rfl dX9_fail_17 ?_
    obtain ⟨s4, e5, h⟩ := ld h
    refine V.eq e5 ?_
    exact v_vret hC rfl dX9_fail_20 h
theorem k_X9_fail (l : Launch) {G : WD}   {τ : HS}  {σ : HS}  (hG : GX G mY) (hO0 : Ob G mY 0 8) (h : c_X9_fail  σ = some τ) : MV mE l yX9_fail wsX9_fail rmX9_fail G mY [.ref (G.2.2.1 0)] σ τ :=
  MV.of RX9 (by decide) rfl rfl (Nat.le_of_ble_eq_true rfl) rfl rfl (fun p e s m below meth c hC => w_X9_fail  hG hO0 hC h)
abbrev rmX9_isWord : Room := { frames := 0, cells := 0, slots := 0, locals := 0 }
def c_X9_isWord (p1 : Int64) (σ : HS) : Option (Int32 × HS) := (if (gI σ 0 20) = 0 then (if (gI σ 0 15) = 1 then (if (lg_cmp (gJ σ 0 17) p1) = 0 then (some (1, σ)) else (some (0, σ))) else (some (0, σ))) else (some (0, σ)))
set_option maxHeartbeats 4000000 in
set_option maxRecDepth 100000 in
theorem w_X9_isWord {p : Program} {l : Launch} {e : Env} {s : State} {m : MethodId} {args : Array Value} {below : List Frame} {meth : Method} {c : Code} {A : Nat → Prop} {G : WD}  {r0 : Int32} {τ : HS} {p1 : Int64} {σ : HS}  (hG : GX G mY) (hO0 : Ob G mY 0 8) (hC : Cx mE G.1 G.2.1 mY cX9_isWord 3 (some .boolean) RX9 wsX9_isWord p s m args meth c A) (h : c_X9_isWord p1 σ = some (r0, τ)) : V p l e rmX9_isWord s m args below meth c 3 A G mY 0 0 (MQ below (QI G mY A r0 τ) args s 0 0 A) σ 0 [(0, .ref (G.2.2.1 0)), (1, .long p1)] [] := by
  rw [c_X9_isWord] at h
  refine v_aload_n hC dX9_isWord_0 0 rfl ?_
  refine v_get (C := RX9) (T := TX9) (N := 45) (ci := 8) (k := 20) (v := .int (gI σ 0 20)) hC hO0 hi_X9_isWord_X9 rfl (by decide) (by decide) rfl rfl fl163_X9_isWord dX9_isWord_1 rfl ?_
  refine v_if_ne (tgt := 28) hC dX9_isWord_4 (by decide) (fun c_1 => ?_) (fun c_1 => ?_)
  · replace h := ifn c_1 h
    refine v_iconst (v := 0) hC dX9_isWord_28 (by decide) ?_
    exact v_zret hC rfl rfl dX9_isWord_29 h
  · replace h := ift c_1 h
    refine v_aload_n hC dX9_isWord_7 0 rfl ?_
    refine v_get (C := RX9) (T := TX9) (N := 45) (ci := 8) (k := 15) (v := .int (gI σ 0 15)) hC hO0 hi_X9_isWord_X9 rfl (by decide) (by decide) rfl rfl fl142_X9_isWord dX9_isWord_8 rfl ?_
    refine v_iconst (v := 1) hC dX9_isWord_11 (by decide) ?_
    refine v_icmp_ne (tgt := 28) hC dX9_isWord_12 (by decide) (fun c_2 => ?_) (fun c_2 => ?_)
    · replace h := ifn c_2 h
      refine v_iconst (v := 0) hC dX9_isWord_28 (by decide) ?_
      exact v_zret hC rfl rfl dX9_isWord_29 h
    · replace h := ift c_2 h
      refine v_aload_n hC dX9_isWord_15 0 rfl ?_
      refine v_get (C := RX9) (T := TX9) (N := 45) (ci := 8) (k := 17) (v := .long (gJ σ 0 17)) hC hO0 hi_X9_isWord_X9 rfl (by decide) (by decide) rfl rfl fl149_X9_isWord dX9_isWord_16 rfl ?_
      refine v_lload_n hC dX9_isWord_19 1 rfl ?_
      refine v_lcmp hC dX9_isWord_20 ?_
      refine v_if_ne (tgt := 28) hC dX9_isWord_21 (by decide) (fun c_3 => ?_) (fun c_3 => ?_)
      · replace h := ifn c_3 h
        refine v_iconst (v := 0) hC dX9_isWord_28 (by decide) ?_
        exact v_zret hC rfl rfl dX9_isWord_29 h
      · replace h := ift c_3 h
        refine v_iconst (v := 1) hC dX9_isWord_24 (by decide) ?_
        refine v_goto (tgt := 29) hC dX9_isWord_25 (by decide) ?_
        exact v_zret hC rfl rfl dX9_isWord_29 h
theorem k_X9_isWord (l : Launch) {G : WD}   {r0 : Int32} {τ : HS} {p1 : Int64} {σ : HS}  (hG : GX G mY) (hO0 : Ob G mY 0 8) (h : c_X9_isWord p1 σ = some (r0, τ)) : MI mE l yX9_isWord wsX9_isWord rmX9_isWord G mY [.ref (G.2.2.1 0), .long p1] σ r0 τ :=
  MI.of RX9 (by decide) rfl rfl (Nat.le_of_ble_eq_true rfl) rfl rfl (fun p e s m below meth c hC => w_X9_isWord  hG hO0 hC h)
abbrev rmX9_isSign : Room := { frames := 0, cells := 0, slots := 0, locals := 0 }
def c_X9_isSign (p1 : Int32) (σ : HS) : Option (Int32 × HS) := (if (gI σ 0 20) = 0 then (if (gI σ 0 15) = 3 then (if (lg_cmp (gJ σ 0 17) (Int32.toInt64 p1)) = 0 then (some (1, σ)) else (some (0, σ))) else (some (0, σ))) else (some (0, σ)))
set_option maxHeartbeats 4000000 in
set_option maxRecDepth 100000 in
theorem w_X9_isSign {p : Program} {l : Launch} {e : Env} {s : State} {m : MethodId} {args : Array Value} {below : List Frame} {meth : Method} {c : Code} {A : Nat → Prop} {G : WD}  {r0 : Int32} {τ : HS} {p1 : Int32} {σ : HS}  (hG : GX G mY) (hO0 : Ob G mY 0 8) (hC : Cx mE G.1 G.2.1 mY cX9_isSign 2 (some .boolean) RX9 wsX9_isSign p s m args meth c A) (h : c_X9_isSign p1 σ = some (r0, τ)) : V p l e rmX9_isSign s m args below meth c 2 A G mY 0 0 (MQ below (QI G mY A r0 τ) args s 0 0 A) σ 0 [(0, .ref (G.2.2.1 0)), (1, .int p1)] [] := by
  rw [c_X9_isSign] at h
  refine v_aload_n hC dX9_isSign_0 0 rfl ?_
  refine v_get (C := RX9) (T := TX9) (N := 45) (ci := 8) (k := 20) (v := .int (gI σ 0 20)) hC hO0 hi_X9_isSign_X9 rfl (by decide) (by decide) rfl rfl fl163_X9_isSign dX9_isSign_1 rfl ?_
  refine v_if_ne (tgt := 29) hC dX9_isSign_4 (by decide) (fun c_1 => ?_) (fun c_1 => ?_)
  · replace h := ifn c_1 h
    refine v_iconst (v := 0) hC dX9_isSign_29 (by decide) ?_
    exact v_zret hC rfl rfl dX9_isSign_30 h
  · replace h := ift c_1 h
    refine v_aload_n hC dX9_isSign_7 0 rfl ?_
    refine v_get (C := RX9) (T := TX9) (N := 45) (ci := 8) (k := 15) (v := .int (gI σ 0 15)) hC hO0 hi_X9_isSign_X9 rfl (by decide) (by decide) rfl rfl fl142_X9_isSign dX9_isSign_8 rfl ?_
    refine v_iconst (v := 3) hC dX9_isSign_11 (by decide) ?_
    refine v_icmp_ne (tgt := 29) hC dX9_isSign_12 (by decide) (fun c_2 => ?_) (fun c_2 => ?_)
    · replace h := ifn c_2 h
      refine v_iconst (v := 0) hC dX9_isSign_29 (by decide) ?_
      exact v_zret hC rfl rfl dX9_isSign_30 h
    · replace h := ift c_2 h
      refine v_aload_n hC dX9_isSign_15 0 rfl ?_
      refine v_get (C := RX9) (T := TX9) (N := 45) (ci := 8) (k := 17) (v := .long (gJ σ 0 17)) hC hO0 hi_X9_isSign_X9 rfl (by decide) (by decide) rfl rfl fl149_X9_isSign dX9_isSign_16 rfl ?_
      refine v_iload_n hC dX9_isSign_19 1 rfl ?_
      refine v_i2l hC dX9_isSign_20 ?_
      refine v_lcmp hC dX9_isSign_21 ?_
      refine v_if_ne (tgt := 29) hC dX9_isSign_22 (by decide) (fun c_3 => ?_) (fun c_3 => ?_)
      · replace h := ifn c_3 h
        refine v_iconst (v := 0) hC dX9_isSign_29 (by decide) ?_
        exact v_zret hC rfl rfl dX9_isSign_30 h
      · replace h := ift c_3 h
        refine v_iconst (v := 1) hC dX9_isSign_25 (by decide) ?_
        refine v_goto (tgt := 30) hC dX9_isSign_26 (by decide) ?_
        exact v_zret hC rfl rfl dX9_isSign_30 h
theorem k_X9_isSign (l : Launch) {G : WD}   {r0 : Int32} {τ : HS} {p1 : Int32} {σ : HS}  (hG : GX G mY) (hO0 : Ob G mY 0 8) (h : c_X9_isSign p1 σ = some (r0, τ)) : MI mE l yX9_isSign wsX9_isSign rmX9_isSign G mY [.ref (G.2.2.1 0), .int p1] σ r0 τ :=
  MI.of RX9 (by decide) rfl rfl (Nat.le_of_ble_eq_true rfl) rfl rfl (fun p e s m below meth c hC => w_X9_isSign  hG hO0 hC h)
abbrev rmX9_opens : Room := { frames := 2, cells := 0, slots := 0, locals := 47 }
def c_X9_opens (σ : HS) : Option (Int32 × HS) := (if (gI σ 0 19) = 5 then (bi1 (c_X9_fail σ) (fun s7 => (some (0, s7)))) else (lt (sI σ 0 19 ((gI σ 0 19) + 1)) (fun s2 => (bi1 (c_X9_next1 s2) (fun s5 => (some (1, s5)))))))
set_option maxHeartbeats 4000000 in
set_option maxRecDepth 100000 in
theorem w_X9_opens {p : Program} {l : Launch} {e : Env} {s : State} {m : MethodId} {args : Array Value} {below : List Frame} {meth : Method} {c : Code} {A : Nat → Prop} {G : WD}  {r0 : Int32} {τ : HS}  {σ : HS}  (hG : GX G mY) (hO0 : Ob G mY 0 8) (hC : Cx mE G.1 G.2.1 mY cX9_opens 1 (some .boolean) RX9 wsX9_opens p s m args meth c A) (h : c_X9_opens  σ = some (r0, τ)) : V p l e rmX9_opens s m args below meth c 1 A G mY 0 0 (MQ below (QI G mY A r0 τ) args s 0 0 A) σ 0 [(0, .ref (G.2.2.1 0))] [] := by
  rw [c_X9_opens] at h
  refine v_aload_n hC dX9_opens_0 0 rfl ?_
  refine v_get (C := RX9) (T := TX9) (N := 45) (ci := 8) (k := 19) (v := .int (gI σ 0 19)) hC hO0 hi_X9_opens_X9 rfl (by decide) (by decide) rfl rfl fl170_X9_opens dX9_opens_1 rfl ?_
  refine v_iconst (v := 5) hC dX9_opens_4 (by decide) ?_
  refine v_icmp_ne (tgt := 14) hC dX9_opens_5 (by decide) (fun c_1 => ?_) (fun c_1 => ?_)
  · replace h := ifn c_1 h
    refine v_aload_n hC dX9_opens_14 0 rfl ?_
    refine v_dup hC dX9_opens_15 rfl ?_
    refine v_get (C := RX9) (T := TX9) (N := 45) (ci := 8) (k := 19) (v := .int (gI σ 0 19)) hC hO0 hi_X9_opens_X9 rfl (by decide) (by decide) rfl rfl fl170_X9_opens dX9_opens_16 rfl ?_
    refine v_iconst (v := 1) hC dX9_opens_19 (by decide) ?_
    refine v_iadd hC dX9_opens_20 ?_
    refine v_putI (C := RX9) (T := TX9) (N := 45) (ci := 8) (k := 19) (ty := .int) hC hO0 hi_X9_opens_X9 rfl (by decide) (by decide) rfl rfl tyX9_ok nmX9 fl170_X9_opens rfl rfl rfl rfl rfl dX9_opens_21 ?_
    obtain ⟨s2, e3, h⟩ := ld h
    refine V.eq e3 ?_
    refine v_aload_n hC dX9_opens_24 0 rfl ?_
    obtain ⟨s5, hc_4, h⟩ := bd1 h
    refine v_callVV hC mE_ok (n := 0) (As := []) (k_X9_next1 l hG (hO0) hc_4) (cwV 0 hC.1.2.2.2.2 gX9_opens_X9_next1 rfl rfl rfl (by decide +kernel) ⟨(Nat.le_of_ble_eq_true rfl), (Nat.le_of_ble_eq_true rfl)⟩) hO0 (by decide) rfl rfl rfl (Nat.le_of_ble_eq_true rfl) ⟨Nat.zero_le _, Nat.zero_le _⟩ dX9_opens_25 rfl ?_
    refine v_iconst (v := 1) hC dX9_opens_28 (by decide) ?_
    exact v_zret hC rfl rfl dX9_opens_29 h
  · replace h := ift c_1 h
    refine v_aload_n hC dX9_opens_8 0 rfl ?_
    obtain ⟨s7, hc_6, h⟩ := bd1 h
    refine v_callVV hC mE_ok (n := 0) (As := []) (k_X9_fail l hG (hO0) hc_6) (cwV 0 hC.1.2.2.2.2 gX9_opens_X9_fail rfl rfl rfl (by decide +kernel) ⟨(Nat.le_of_ble_eq_true rfl), (Nat.le_of_ble_eq_true rfl)⟩) hO0 (by decide) rfl rfl rfl (Nat.le_of_ble_eq_true rfl) ⟨Nat.zero_le _, Nat.zero_le _⟩ dX9_opens_9 rfl ?_
    refine v_iconst (v := 0) hC dX9_opens_12 (by decide) ?_
    exact v_zret hC rfl rfl dX9_opens_13 h
theorem k_X9_opens (l : Launch) {G : WD}   {r0 : Int32} {τ : HS}  {σ : HS}  (hG : GX G mY) (hO0 : Ob G mY 0 8) (h : c_X9_opens  σ = some (r0, τ)) : MI mE l yX9_opens wsX9_opens rmX9_opens G mY [.ref (G.2.2.1 0)] σ r0 τ :=
  MI.of RX9 (by decide) rfl rfl (Nat.le_of_ble_eq_true rfl) rfl rfl (fun p e s m below meth c hC => w_X9_opens  hG hO0 hC h)
abbrev rmX9_name : Room := { frames := 1, cells := 0, slots := 0, locals := 22 }
def c_X9_name (σ : HS) : Option (Int32 × HS) := (bi2 (c_X9_isWord 3499582 σ) (fun r3 s2 => (if r3 = 0 then (bi2 (c_X9_isWord 9626 s2) (fun r7 s6 => (if r7 = 0 then (bi2 (c_X9_isWord 6683788 s6) (fun r11 s10 => (if r11 = 0 then (bi2 (c_X9_isWord 5176084822 s10) (fun r15 s14 => (if r15 = 0 then (bi2 (c_X9_isWord 9753499 s14) (fun r19 s18 => (if r19 = 0 then (bi2 (c_X9_isWord 4871861606 s18) (fun r23 s22 => (if r23 = 0 then (bi1 (c_X9_fail s22) (fun s26 => (some (0, s26)))) else (some ((gI s22 0 11), s22))))) else (some ((gI s18 0 10), s18))))) else (some ((gI s14 0 12), s14))))) else (some ((gI s10 0 23), s10))))) else (some ((gI s6 0 8), s6))))) else (some ((gI s2 0 22), s2)))))
set_option maxHeartbeats 4000000 in
set_option maxRecDepth 100000 in
theorem w_X9_name {p : Program} {l : Launch} {e : Env} {s : State} {m : MethodId} {args : Array Value} {below : List Frame} {meth : Method} {c : Code} {A : Nat → Prop} {G : WD}  {r0 : Int32} {τ : HS}  {σ : HS}  (hG : GX G mY) (hO0 : Ob G mY 0 8) (hC : Cx mE G.1 G.2.1 mY cX9_name 1 (some .int) RX9 wsX9_name p s m args meth c A) (h : c_X9_name  σ = some (r0, τ)) : V p l e rmX9_name s m args below meth c 1 A G mY 0 0 (MQ below (QI G mY A r0 τ) args s 0 0 A) σ 0 [(0, .ref (G.2.2.1 0))] [] := by
  rw [c_X9_name] at h
  refine v_aload_n hC dX9_name_0 0 rfl ?_
  refine v_ldc2 (v := 3499582) hC lc179_X9_name dX9_name_1 ?_
  obtain ⟨r3, s2, hc_1, h⟩ := bd2 h
  refine v_callVI hC mE_ok (n := 1) (As := [.long 3499582]) (k_X9_isWord l hG (hO0) hc_1) (cwV 1 hC.1.2.2.2.2 gX9_name_X9_isWord rfl rfl rfl (by decide +kernel) ⟨(Nat.le_of_ble_eq_true rfl), (Nat.le_of_ble_eq_true rfl)⟩) hO0 (by decide) rfl rfl rfl (Nat.le_of_ble_eq_true rfl) ⟨Nat.zero_le _, Nat.zero_le _⟩ dX9_name_4 rfl ?_
  refine v_if_eq (tgt := 15) hC dX9_name_7 (by decide) (fun c_4 => ?_) (fun c_4 => ?_)
  · replace h := ift c_4 h
    refine v_aload_n hC dX9_name_15 0 rfl ?_
    refine v_ldc2 (v := 9626) hC lc188_X9_name dX9_name_16 ?_
    obtain ⟨r7, s6, hc_5, h⟩ := bd2 h
    refine v_callVI hC mE_ok (n := 1) (As := [.long 9626]) (k_X9_isWord l hG (hO0) hc_5) (cwV 1 hC.1.2.2.2.2 gX9_name_X9_isWord rfl rfl rfl (by decide +kernel) ⟨(Nat.le_of_ble_eq_true rfl), (Nat.le_of_ble_eq_true rfl)⟩) hO0 (by decide) rfl rfl rfl (Nat.le_of_ble_eq_true rfl) ⟨Nat.zero_le _, Nat.zero_le _⟩ dX9_name_19 rfl ?_
    refine v_if_eq (tgt := 30) hC dX9_name_22 (by decide) (fun c_8 => ?_) (fun c_8 => ?_)
    · replace h := ift c_8 h
      refine v_aload_n hC dX9_name_30 0 rfl ?_
      refine v_ldc2 (v := 6683788) hC lc190_X9_name dX9_name_31 ?_
      obtain ⟨r11, s10, hc_9, h⟩ := bd2 h
      refine v_callVI hC mE_ok (n := 1) (As := [.long 6683788]) (k_X9_isWord l hG (hO0) hc_9) (cwV 1 hC.1.2.2.2.2 gX9_name_X9_isWord rfl rfl rfl (by decide +kernel) ⟨(Nat.le_of_ble_eq_true rfl), (Nat.le_of_ble_eq_true rfl)⟩) hO0 (by decide) rfl rfl rfl (Nat.le_of_ble_eq_true rfl) ⟨Nat.zero_le _, Nat.zero_le _⟩ dX9_name_34 rfl ?_
      refine v_if_eq (tgt := 45) hC dX9_name_37 (by decide) (fun c_12 => ?_) (fun c_12 => ?_)
      · replace h := ift c_12 h
        refine v_aload_n hC dX9_name_45 0 rfl ?_
        refine v_ldc2 (v := 5176084822) hC lc195_X9_name dX9_name_46 ?_
        obtain ⟨r15, s14, hc_13, h⟩ := bd2 h
        refine v_callVI hC mE_ok (n := 1) (As := [.long 5176084822]) (k_X9_isWord l hG (hO0) hc_13) (cwV 1 hC.1.2.2.2.2 gX9_name_X9_isWord rfl rfl rfl (by decide +kernel) ⟨(Nat.le_of_ble_eq_true rfl), (Nat.le_of_ble_eq_true rfl)⟩) hO0 (by decide) rfl rfl rfl (Nat.le_of_ble_eq_true rfl) ⟨Nat.zero_le _, Nat.zero_le _⟩ dX9_name_49 rfl ?_
        refine v_if_eq (tgt := 60) hC dX9_name_52 (by decide) (fun c_16 => ?_) (fun c_16 => ?_)
        · replace h := ift c_16 h
          refine v_aload_n hC dX9_name_60 0 rfl ?_
          refine v_ldc2 (v := 9753499) hC lc197_X9_name dX9_name_61 ?_
          obtain ⟨r19, s18, hc_17, h⟩ := bd2 h
          refine v_callVI hC mE_ok (n := 1) (As := [.long 9753499]) (k_X9_isWord l hG (hO0) hc_17) (cwV 1 hC.1.2.2.2.2 gX9_name_X9_isWord rfl rfl rfl (by decide +kernel) ⟨(Nat.le_of_ble_eq_true rfl), (Nat.le_of_ble_eq_true rfl)⟩) hO0 (by decide) rfl rfl rfl (Nat.le_of_ble_eq_true rfl) ⟨Nat.zero_le _, Nat.zero_le _⟩ dX9_name_64 rfl ?_
          refine v_if_eq (tgt := 75) hC dX9_name_67 (by decide) (fun c_20 => ?_) (fun c_20 => ?_)
          · replace h := ift c_20 h
            refine v_aload_n hC dX9_name_75 0 rfl ?_
            refine v_ldc2 (v := 4871861606) hC lc199_X9_name dX9_name_76 ?_
            obtain ⟨r23, s22, hc_21, h⟩ := bd2 h
            refine v_callVI hC mE_ok (n := 1) (As := [.long 4871861606]) (k_X9_isWord l hG (hO0) hc_21) (cwV 1 hC.1.2.2.2.2 gX9_name_X9_isWord rfl rfl rfl (by decide +kernel) ⟨(Nat.le_of_ble_eq_true rfl), (Nat.le_of_ble_eq_true rfl)⟩) hO0 (by decide) rfl rfl rfl (Nat.le_of_ble_eq_true rfl) ⟨Nat.zero_le _, Nat.zero_le _⟩ dX9_name_79 rfl ?_
            refine v_if_eq (tgt := 90) hC dX9_name_82 (by decide) (fun c_24 => ?_) (fun c_24 => ?_)
            · replace h := ift c_24 h
              refine v_aload_n hC dX9_name_90 0 rfl ?_
              obtain ⟨s26, hc_25, h⟩ := bd1 h
              refine v_callVV hC mE_ok (n := 0) (As := []) (k_X9_fail l hG (hO0) hc_25) (cwV 0 hC.1.2.2.2.2 gX9_name_X9_fail rfl rfl rfl (by decide +kernel) ⟨(Nat.le_of_ble_eq_true rfl), (Nat.le_of_ble_eq_true rfl)⟩) hO0 (by decide) rfl rfl rfl (Nat.le_of_ble_eq_true rfl) ⟨Nat.zero_le _, Nat.zero_le _⟩ dX9_name_91 rfl ?_
              refine v_iconst (v := 0) hC dX9_name_94 (by decide) ?_
              exact v_iret hC rfl dX9_name_95 h
            · replace h := ifn c_24 h
              refine v_aload_n hC dX9_name_85 0 rfl ?_
              refine v_get (C := RX9) (T := TX9) (N := 45) (ci := 8) (k := 11) (v := .int (gI s22 0 11)) hC hO0 hi_X9_name_X9 rfl (by decide) (by decide) rfl rfl fl108_X9_name dX9_name_86 rfl ?_
              exact v_iret hC rfl dX9_name_89 h
          · replace h := ifn c_20 h
            refine v_aload_n hC dX9_name_70 0 rfl ?_
            refine v_get (C := RX9) (T := TX9) (N := 45) (ci := 8) (k := 10) (v := .int (gI s18 0 10)) hC hO0 hi_X9_name_X9 rfl (by decide) (by decide) rfl rfl fl114_X9_name dX9_name_71 rfl ?_
            exact v_iret hC rfl dX9_name_74 h
        · replace h := ifn c_16 h
          refine v_aload_n hC dX9_name_55 0 rfl ?_
          refine v_get (C := RX9) (T := TX9) (N := 45) (ci := 8) (k := 12) (v := .int (gI s14 0 12)) hC hO0 hi_X9_name_X9 rfl (by decide) (by decide) rfl rfl fl111_X9_name dX9_name_56 rfl ?_
          exact v_iret hC rfl dX9_name_59 h
      · replace h := ifn c_12 h
        refine v_aload_n hC dX9_name_40 0 rfl ?_
        refine v_get (C := RX9) (T := TX9) (N := 45) (ci := 8) (k := 23) (v := .int (gI s10 0 23)) hC hO0 hi_X9_name_X9 rfl (by decide) (by decide) rfl rfl fl192_X9_name dX9_name_41 rfl ?_
        exact v_iret hC rfl dX9_name_44 h
    · replace h := ifn c_8 h
      refine v_aload_n hC dX9_name_25 0 rfl ?_
      refine v_get (C := RX9) (T := TX9) (N := 45) (ci := 8) (k := 8) (v := .int (gI s6 0 8)) hC hO0 hi_X9_name_X9 rfl (by decide) (by decide) rfl rfl fl74_X9_name dX9_name_26 rfl ?_
      exact v_iret hC rfl dX9_name_29 h
  · replace h := ifn c_4 h
    refine v_aload_n hC dX9_name_10 0 rfl ?_
    refine v_get (C := RX9) (T := TX9) (N := 45) (ci := 8) (k := 22) (v := .int (gI s2 0 22)) hC hO0 hi_X9_name_X9 rfl (by decide) (by decide) rfl rfl fl185_X9_name dX9_name_11 rfl ?_
    exact v_iret hC rfl dX9_name_14 h
theorem k_X9_name (l : Launch) {G : WD}   {r0 : Int32} {τ : HS}  {σ : HS}  (hG : GX G mY) (hO0 : Ob G mY 0 8) (h : c_X9_name  σ = some (r0, τ)) : MI mE l yX9_name wsX9_name rmX9_name G mY [.ref (G.2.2.1 0)] σ r0 τ :=
  MI.of RX9 (by decide) rfl rfl (Nat.le_of_ble_eq_true rfl) rfl rfl (fun p e s m below meth c hC => w_X9_name  hG hO0 hC h)
def c_X9_one_71 (kE : HS → Option (Int32 × HS)) (kN : HS → Option (Int32 × HS)) (kO : HS → Option (Int32 × HS)) (x1 : Int32) (σ : HS) : Option (Int32 × HS) := (lt (sI σ 0 19 ((gI σ 0 19) - 1)) (fun s43 => (if (gI s43 0 20) = 0 then (bi1 (c_X9_next1 s43) (fun s47 => (some (x1, s47)))) else (some (x1, s43)))))
set_option maxHeartbeats 4000000 in
set_option maxRecDepth 100000 in
theorem w_X9_one_71 {p : Program} {l : Launch} {e : Env} {s : State} {m : MethodId} {args : Array Value} {below : List Frame} {meth : Method} {c : Code} {A : Nat → Prop} {G : WD} {fr lo : Nat} {kE : HS → Option (Int32 × HS)} {kN : HS → Option (Int32 × HS)} {kO : HS → Option (Int32 × HS)} {r0 : Int32} {τ : HS}  {x1 : Int32} {σ : HS} (hkE : ∀ {σ τ : HS} {r : Int32}, kE σ = some (r, τ) → MI mE l yX9_either wsX9_either { frames := fr + 15, cells := 0, slots := 0, locals := lo + 800 } G mY [.ref (G.2.2.1 0)] σ r τ) (hkN : ∀ {σ τ : HS} {r : Int32}, kN σ = some (r, τ) → MI mE l yX9_not wsX9_not { frames := fr + 13, cells := 0, slots := 0, locals := lo + 720 } G mY [.ref (G.2.2.1 0)] σ r τ) (hkO : ∀ {σ τ : HS} {r : Int32}, kO σ = some (r, τ) → MI mE l yX9_one wsX9_one { frames := fr + 10, cells := 0, slots := 0, locals := lo + 600 } G mY [.ref (G.2.2.1 0)] σ r τ) (hG : GX G mY) (hO0 : Ob G mY 0 8) (hC : Cx mE G.1 G.2.1 mY cX9_one 2 (some .int) RX9 wsX9_one p s m args meth c A)  (h : c_X9_one_71 kE kN kO x1 σ = some (r0, τ)) : V p l e { frames := fr + 20 + 10, cells := 0, slots := 0, locals := lo + 900 + 600 } s m args below meth c 2 A G mY 0 0 (MQ below (QI G mY A r0 τ) args s 0 0 A) σ 71 [(0, .ref (G.2.2.1 0)), (1, .int x1)] [] := by
  rw [c_X9_one_71] at h
  refine v_aload_n hC dX9_one_71 0 rfl ?_
  refine v_dup hC dX9_one_72 rfl ?_
  refine v_get (C := RX9) (T := TX9) (N := 45) (ci := 8) (k := 19) (v := .int (gI σ 0 19)) hC hO0 hi_X9_one_X9 rfl (by decide) (by decide) rfl rfl fl170_X9_one dX9_one_73 rfl ?_
  refine v_iconst (v := 1) hC dX9_one_76 (by decide) ?_
  refine v_isub hC dX9_one_77 ?_
  refine v_putI (C := RX9) (T := TX9) (N := 45) (ci := 8) (k := 19) (ty := .int) hC hO0 hi_X9_one_X9 rfl (by decide) (by decide) rfl rfl tyX9_ok nmX9 fl170_X9_one rfl rfl rfl rfl rfl dX9_one_78 ?_
  obtain ⟨s43, e44, h⟩ := ld h
  refine V.eq e44 ?_
  refine v_aload_n hC dX9_one_81 0 rfl ?_
  refine v_get (C := RX9) (T := TX9) (N := 45) (ci := 8) (k := 20) (v := .int (gI s43 0 20)) hC hO0 hi_X9_one_X9 rfl (by decide) (by decide) rfl rfl fl163_X9_one dX9_one_82 rfl ?_
  refine v_if_ne (tgt := 161) hC dX9_one_85 (by decide) (fun c_45 => ?_) (fun c_45 => ?_)
  · replace h := ifn c_45 h
    refine v_iload_n hC dX9_one_161 1 rfl ?_
    exact v_iret hC rfl dX9_one_162 h
  · replace h := ift c_45 h
    refine v_aload_n hC dX9_one_88 0 rfl ?_
    obtain ⟨s47, hc_46, h⟩ := bd1 h
    refine v_callVV hC mE_ok (n := 0) (As := []) (k_X9_next1 l hG (hO0) hc_46) (cwV 0 hC.1.2.2.2.2 gX9_one_X9_next1 rfl rfl rfl (by decide +kernel) ⟨(by first | omega | (dsimp only; omega) | (dsimp only [rmX9_next1]; omega)), (by first | omega | (dsimp only; omega) | (dsimp only [rmX9_next1]; omega))⟩) hO0 (by decide) rfl rfl rfl (Nat.le_of_ble_eq_true rfl) ⟨Nat.zero_le _, Nat.zero_le _⟩ dX9_one_89 rfl ?_
    refine v_goto (tgt := 161) hC dX9_one_92 (by decide) ?_
    refine v_iload_n hC dX9_one_161 1 rfl ?_
    exact v_iret hC rfl dX9_one_162 h
def c_X9_one_157 (kE : HS → Option (Int32 × HS)) (kN : HS → Option (Int32 × HS)) (kO : HS → Option (Int32 × HS)) (x1 : Int32) (σ : HS) : Option (Int32 × HS) := (bi1 (c_X9_fail σ) (fun s49 => (some (x1, s49))))
set_option maxHeartbeats 4000000 in
set_option maxRecDepth 100000 in
theorem w_X9_one_157 {p : Program} {l : Launch} {e : Env} {s : State} {m : MethodId} {args : Array Value} {below : List Frame} {meth : Method} {c : Code} {A : Nat → Prop} {G : WD} {fr lo : Nat} {kE : HS → Option (Int32 × HS)} {kN : HS → Option (Int32 × HS)} {kO : HS → Option (Int32 × HS)} {r0 : Int32} {τ : HS}  {x1 : Int32} {σ : HS} (hkE : ∀ {σ τ : HS} {r : Int32}, kE σ = some (r, τ) → MI mE l yX9_either wsX9_either { frames := fr + 15, cells := 0, slots := 0, locals := lo + 800 } G mY [.ref (G.2.2.1 0)] σ r τ) (hkN : ∀ {σ τ : HS} {r : Int32}, kN σ = some (r, τ) → MI mE l yX9_not wsX9_not { frames := fr + 13, cells := 0, slots := 0, locals := lo + 720 } G mY [.ref (G.2.2.1 0)] σ r τ) (hkO : ∀ {σ τ : HS} {r : Int32}, kO σ = some (r, τ) → MI mE l yX9_one wsX9_one { frames := fr + 10, cells := 0, slots := 0, locals := lo + 600 } G mY [.ref (G.2.2.1 0)] σ r τ) (hG : GX G mY) (hO0 : Ob G mY 0 8) (hC : Cx mE G.1 G.2.1 mY cX9_one 2 (some .int) RX9 wsX9_one p s m args meth c A)  (h : c_X9_one_157 kE kN kO x1 σ = some (r0, τ)) : V p l e { frames := fr + 20 + 10, cells := 0, slots := 0, locals := lo + 900 + 600 } s m args below meth c 2 A G mY 0 0 (MQ below (QI G mY A r0 τ) args s 0 0 A) σ 157 [(0, .ref (G.2.2.1 0)), (1, .int x1)] [] := by
  rw [c_X9_one_157] at h
  refine v_aload_n hC dX9_one_157 0 rfl ?_
  obtain ⟨s49, hc_48, h⟩ := bd1 h
  refine v_callVV hC mE_ok (n := 0) (As := []) (k_X9_fail l hG (hO0) hc_48) (cwV 0 hC.1.2.2.2.2 gX9_one_X9_fail rfl rfl rfl (by decide +kernel) ⟨(by first | omega | (dsimp only; omega) | (dsimp only [rmX9_fail]; omega)), (by first | omega | (dsimp only; omega) | (dsimp only [rmX9_fail]; omega))⟩) hO0 (by decide) rfl rfl rfl (Nat.le_of_ble_eq_true rfl) ⟨Nat.zero_le _, Nat.zero_le _⟩ dX9_one_158 rfl ?_
  refine v_iload_n hC dX9_one_161 1 rfl ?_
  exact v_iret hC rfl dX9_one_162 h
def c_X9_one_123 (kE : HS → Option (Int32 × HS)) (kN : HS → Option (Int32 × HS)) (kO : HS → Option (Int32 × HS)) (x1 : Int32) (σ : HS) : Option (Int32 × HS) := (if (gI σ 0 20) = 0 then (if (gI σ 0 15) = 1 then (bi2 (c_X9_name σ) (fun r39 s38 => (if (gI s38 0 20) = 0 then (bi1 (c_X9_next1 s38) (fun s42 => (some (r39, s42)))) else (some (r39, s38))))) else (c_X9_one_157 kE kN kO x1 σ)) else (c_X9_one_157 kE kN kO x1 σ))
set_option maxHeartbeats 4000000 in
set_option maxRecDepth 100000 in
theorem w_X9_one_123 {p : Program} {l : Launch} {e : Env} {s : State} {m : MethodId} {args : Array Value} {below : List Frame} {meth : Method} {c : Code} {A : Nat → Prop} {G : WD} {fr lo : Nat} {kE : HS → Option (Int32 × HS)} {kN : HS → Option (Int32 × HS)} {kO : HS → Option (Int32 × HS)} {r0 : Int32} {τ : HS}  {x1 : Int32} {σ : HS} (hkE : ∀ {σ τ : HS} {r : Int32}, kE σ = some (r, τ) → MI mE l yX9_either wsX9_either { frames := fr + 15, cells := 0, slots := 0, locals := lo + 800 } G mY [.ref (G.2.2.1 0)] σ r τ) (hkN : ∀ {σ τ : HS} {r : Int32}, kN σ = some (r, τ) → MI mE l yX9_not wsX9_not { frames := fr + 13, cells := 0, slots := 0, locals := lo + 720 } G mY [.ref (G.2.2.1 0)] σ r τ) (hkO : ∀ {σ τ : HS} {r : Int32}, kO σ = some (r, τ) → MI mE l yX9_one wsX9_one { frames := fr + 10, cells := 0, slots := 0, locals := lo + 600 } G mY [.ref (G.2.2.1 0)] σ r τ) (hG : GX G mY) (hO0 : Ob G mY 0 8) (hC : Cx mE G.1 G.2.1 mY cX9_one 2 (some .int) RX9 wsX9_one p s m args meth c A)  (h : c_X9_one_123 kE kN kO x1 σ = some (r0, τ)) : V p l e { frames := fr + 20 + 10, cells := 0, slots := 0, locals := lo + 900 + 600 } s m args below meth c 2 A G mY 0 0 (MQ below (QI G mY A r0 τ) args s 0 0 A) σ 123 [(0, .ref (G.2.2.1 0)), (1, .int x1)] [] := by
  rw [c_X9_one_123] at h
  refine v_aload_n hC dX9_one_123 0 rfl ?_
  refine v_get (C := RX9) (T := TX9) (N := 45) (ci := 8) (k := 20) (v := .int (gI σ 0 20)) hC hO0 hi_X9_one_X9 rfl (by decide) (by decide) rfl rfl fl163_X9_one dX9_one_124 rfl ?_
  refine v_if_ne (tgt := 157) hC dX9_one_127 (by decide) (fun c_35 => ?_) (fun c_35 => ?_)
  · replace h := ifn c_35 h
    exact w_X9_one_157 hkE hkN hkO hG (hO0) hC h
  · replace h := ift c_35 h
    refine v_aload_n hC dX9_one_130 0 rfl ?_
    refine v_get (C := RX9) (T := TX9) (N := 45) (ci := 8) (k := 15) (v := .int (gI σ 0 15)) hC hO0 hi_X9_one_X9 rfl (by decide) (by decide) rfl rfl fl142_X9_one dX9_one_131 rfl ?_
    refine v_iconst (v := 1) hC dX9_one_134 (by decide) ?_
    refine v_icmp_ne (tgt := 157) hC dX9_one_135 (by decide) (fun c_36 => ?_) (fun c_36 => ?_)
    · replace h := ifn c_36 h
      exact w_X9_one_157 hkE hkN hkO hG (hO0) hC h
    · replace h := ift c_36 h
      refine v_aload_n hC dX9_one_138 0 rfl ?_
      obtain ⟨r39, s38, hc_37, h⟩ := bd2 h
      refine v_callVI hC mE_ok (n := 0) (As := []) (k_X9_name l hG (hO0) hc_37) (cwV 0 hC.1.2.2.2.2 gX9_one_X9_name rfl rfl rfl (by decide +kernel) ⟨(by first | omega | (dsimp only; omega) | (dsimp only [rmX9_name]; omega)), (by first | omega | (dsimp only; omega) | (dsimp only [rmX9_name]; omega))⟩) hO0 (by decide) rfl rfl rfl (Nat.le_of_ble_eq_true rfl) ⟨Nat.zero_le _, Nat.zero_le _⟩ dX9_one_139 rfl ?_
      refine v_istore_n (L' := [(0, .ref (G.2.2.1 0)), (1, .int r39)]) hC dX9_one_142 (by decide) [1, 0] rfl ?_
      refine v_aload_n hC dX9_one_143 0 rfl ?_
      refine v_get (C := RX9) (T := TX9) (N := 45) (ci := 8) (k := 20) (v := .int (gI s38 0 20)) hC hO0 hi_X9_one_X9 rfl (by decide) (by decide) rfl rfl fl163_X9_one dX9_one_144 rfl ?_
      refine v_if_ne (tgt := 161) hC dX9_one_147 (by decide) (fun c_40 => ?_) (fun c_40 => ?_)
      · replace h := ifn c_40 h
        refine v_iload_n hC dX9_one_161 1 rfl ?_
        exact v_iret hC rfl dX9_one_162 h
      · replace h := ift c_40 h
        refine v_aload_n hC dX9_one_150 0 rfl ?_
        obtain ⟨s42, hc_41, h⟩ := bd1 h
        refine v_callVV hC mE_ok (n := 0) (As := []) (k_X9_next1 l hG (hO0) hc_41) (cwV 0 hC.1.2.2.2.2 gX9_one_X9_next1 rfl rfl rfl (by decide +kernel) ⟨(by first | omega | (dsimp only; omega) | (dsimp only [rmX9_next1]; omega)), (by first | omega | (dsimp only; omega) | (dsimp only [rmX9_next1]; omega))⟩) hO0 (by decide) rfl rfl rfl (Nat.le_of_ble_eq_true rfl) ⟨Nat.zero_le _, Nat.zero_le _⟩ dX9_one_151 rfl ?_
        refine v_goto (tgt := 161) hC dX9_one_154 (by decide) ?_
        refine v_iload_n hC dX9_one_161 1 rfl ?_
        exact v_iret hC rfl dX9_one_162 h
def c_X9_one (kE : HS → Option (Int32 × HS)) (kN : HS → Option (Int32 × HS)) (kO : HS → Option (Int32 × HS)) (σ : HS) : Option (Int32 × HS) := (bi2 (c_X9_isSign 45 σ) (fun r3 s2 => (if r3 = 0 then (bi2 (c_X9_isSign 40 s2) (fun r7 s6 => (if r7 = 0 then (if (gI s6 0 20) = 0 then (if (gI s6 0 15) = 2 then (bi1 (c_X9_next1 s6) (fun s12 => (some ((Int64.toInt32 (gJ s6 0 17)), s12)))) else (c_X9_one_123 kE kN kO 0 s6)) else (c_X9_one_123 kE kN kO 0 s6)) else (bi2 (c_X9_opens s6) (fun r15 s14 => (if r15 = 0 then (some (0, s14)) else (bi2 (kE s14) (fun r19 s18 => (bi2 (c_X9_isSign 41 s18) (fun r22 s21 => (if r22 = 0 then (bi1 (c_X9_fail s21) (fun s25 => (c_X9_one_71 kE kN kO r19 s25))) else (c_X9_one_71 kE kN kO r19 s21)))))))))))) else (bi2 (c_X9_opens s2) (fun r28 s27 => (if r28 = 0 then (some (0, s27)) else (bi2 (kO s27) (fun r32 s31 => (lt (sI s31 0 19 ((gI s31 0 19) - 1)) (fun s33 => (some ((-r32), s33))))))))))))
set_option maxHeartbeats 4000000 in
set_option maxRecDepth 100000 in
theorem w_X9_one {p : Program} {l : Launch} {e : Env} {s : State} {m : MethodId} {args : Array Value} {below : List Frame} {meth : Method} {c : Code} {A : Nat → Prop} {G : WD} {fr lo : Nat} {kE : HS → Option (Int32 × HS)} {kN : HS → Option (Int32 × HS)} {kO : HS → Option (Int32 × HS)} {r0 : Int32} {τ : HS}  {σ : HS} (hkE : ∀ {σ τ : HS} {r : Int32}, kE σ = some (r, τ) → MI mE l yX9_either wsX9_either { frames := fr + 15, cells := 0, slots := 0, locals := lo + 800 } G mY [.ref (G.2.2.1 0)] σ r τ) (hkN : ∀ {σ τ : HS} {r : Int32}, kN σ = some (r, τ) → MI mE l yX9_not wsX9_not { frames := fr + 13, cells := 0, slots := 0, locals := lo + 720 } G mY [.ref (G.2.2.1 0)] σ r τ) (hkO : ∀ {σ τ : HS} {r : Int32}, kO σ = some (r, τ) → MI mE l yX9_one wsX9_one { frames := fr + 10, cells := 0, slots := 0, locals := lo + 600 } G mY [.ref (G.2.2.1 0)] σ r τ) (hG : GX G mY) (hO0 : Ob G mY 0 8) (hC : Cx mE G.1 G.2.1 mY cX9_one 2 (some .int) RX9 wsX9_one p s m args meth c A) (h : c_X9_one kE kN kO  σ = some (r0, τ)) : V p l e { frames := fr + 20 + 10, cells := 0, slots := 0, locals := lo + 900 + 600 } s m args below meth c 2 A G mY 0 0 (MQ below (QI G mY A r0 τ) args s 0 0 A) σ 0 [(0, .ref (G.2.2.1 0))] [] := by
  rw [c_X9_one] at h
  refine v_iconst (v := 0) hC dX9_one_0 (by decide) ?_
  refine v_istore_n (L' := [(0, .ref (G.2.2.1 0)), (1, .int 0)]) hC dX9_one_1 (by decide) [1, 0] rfl ?_
  refine v_aload_n hC dX9_one_2 0 rfl ?_
  refine v_bipush (v := 45) hC dX9_one_3 (by decide) ?_
  obtain ⟨r3, s2, hc_1, h⟩ := bd2 h
  refine v_callVI hC mE_ok (n := 1) (As := [.int 45]) (k_X9_isSign l hG (hO0) hc_1) (cwV 1 hC.1.2.2.2.2 gX9_one_X9_isSign rfl rfl rfl (by decide +kernel) ⟨(by first | omega | (dsimp only; omega) | (dsimp only [rmX9_isSign]; omega)), (by first | omega | (dsimp only; omega) | (dsimp only [rmX9_isSign]; omega))⟩) hO0 (by decide) rfl rfl rfl (Nat.le_of_ble_eq_true rfl) ⟨Nat.zero_le _, Nat.zero_le _⟩ dX9_one_5 rfl ?_
  refine v_if_eq (tgt := 37) hC dX9_one_8 (by decide) (fun c_4 => ?_) (fun c_4 => ?_)
  · replace h := ift c_4 h
    refine v_aload_n hC dX9_one_37 0 rfl ?_
    refine v_bipush (v := 40) hC dX9_one_38 (by decide) ?_
    obtain ⟨r7, s6, hc_5, h⟩ := bd2 h
    refine v_callVI hC mE_ok (n := 1) (As := [.int 40]) (k_X9_isSign l hG (hO0) hc_5) (cwV 1 hC.1.2.2.2.2 gX9_one_X9_isSign rfl rfl rfl (by decide +kernel) ⟨(by first | omega | (dsimp only; omega) | (dsimp only [rmX9_isSign]; omega)), (by first | omega | (dsimp only; omega) | (dsimp only [rmX9_isSign]; omega))⟩) hO0 (by decide) rfl rfl rfl (Nat.le_of_ble_eq_true rfl) ⟨Nat.zero_le _, Nat.zero_le _⟩ dX9_one_40 rfl ?_
    refine v_if_eq (tgt := 95) hC dX9_one_43 (by decide) (fun c_8 => ?_) (fun c_8 => ?_)
    · replace h := ift c_8 h
      refine v_aload_n hC dX9_one_95 0 rfl ?_
      refine v_get (C := RX9) (T := TX9) (N := 45) (ci := 8) (k := 20) (v := .int (gI s6 0 20)) hC hO0 hi_X9_one_X9 rfl (by decide) (by decide) rfl rfl fl163_X9_one dX9_one_96 rfl ?_
      refine v_if_ne (tgt := 123) hC dX9_one_99 (by decide) (fun c_9 => ?_) (fun c_9 => ?_)
      · replace h := ifn c_9 h
        exact w_X9_one_123 hkE hkN hkO hG (hO0) hC h
      · replace h := ift c_9 h
        refine v_aload_n hC dX9_one_102 0 rfl ?_
        refine v_get (C := RX9) (T := TX9) (N := 45) (ci := 8) (k := 15) (v := .int (gI s6 0 15)) hC hO0 hi_X9_one_X9 rfl (by decide) (by decide) rfl rfl fl142_X9_one dX9_one_103 rfl ?_
        refine v_iconst (v := 2) hC dX9_one_106 (by decide) ?_
        refine v_icmp_ne (tgt := 123) hC dX9_one_107 (by decide) (fun c_10 => ?_) (fun c_10 => ?_)
        · replace h := ifn c_10 h
          exact w_X9_one_123 hkE hkN hkO hG (hO0) hC h
        · replace h := ift c_10 h
          refine v_aload_n hC dX9_one_110 0 rfl ?_
          refine v_get (C := RX9) (T := TX9) (N := 45) (ci := 8) (k := 17) (v := .long (gJ s6 0 17)) hC hO0 hi_X9_one_X9 rfl (by decide) (by decide) rfl rfl fl149_X9_one dX9_one_111 rfl ?_
          refine v_l2i hC dX9_one_114 ?_
          refine v_istore_n (L' := [(0, .ref (G.2.2.1 0)), (1, .int (Int64.toInt32 (gJ s6 0 17)))]) hC dX9_one_115 (by decide) [1, 0] rfl ?_
          refine v_aload_n hC dX9_one_116 0 rfl ?_
          obtain ⟨s12, hc_11, h⟩ := bd1 h
          refine v_callVV hC mE_ok (n := 0) (As := []) (k_X9_next1 l hG (hO0) hc_11) (cwV 0 hC.1.2.2.2.2 gX9_one_X9_next1 rfl rfl rfl (by decide +kernel) ⟨(by first | omega | (dsimp only; omega) | (dsimp only [rmX9_next1]; omega)), (by first | omega | (dsimp only; omega) | (dsimp only [rmX9_next1]; omega))⟩) hO0 (by decide) rfl rfl rfl (Nat.le_of_ble_eq_true rfl) ⟨Nat.zero_le _, Nat.zero_le _⟩ dX9_one_117 rfl ?_
          refine v_goto (tgt := 161) hC dX9_one_120 (by decide) ?_
          refine v_iload_n hC dX9_one_161 1 rfl ?_
          exact v_iret hC rfl dX9_one_162 h
    · replace h := ifn c_8 h
      refine v_aload_n hC dX9_one_46 0 rfl ?_
      obtain ⟨r15, s14, hc_13, h⟩ := bd2 h
      refine v_callVI hC mE_ok (n := 0) (As := []) (k_X9_opens l hG (hO0) hc_13) (cwV 0 hC.1.2.2.2.2 gX9_one_X9_opens rfl rfl rfl (by decide +kernel) ⟨(by first | omega | (dsimp only; omega) | (dsimp only [rmX9_opens]; omega)), (by first | omega | (dsimp only; omega) | (dsimp only [rmX9_opens]; omega))⟩) hO0 (by decide) rfl rfl rfl (Nat.le_of_ble_eq_true rfl) ⟨Nat.zero_le _, Nat.zero_le _⟩ dX9_one_47 rfl ?_
      refine v_if_eq (tgt := 161) hC dX9_one_50 (by decide) (fun c_16 => ?_) (fun c_16 => ?_)
      · replace h := ift c_16 h
        refine v_iload_n hC dX9_one_161 1 rfl ?_
        exact v_iret hC rfl dX9_one_162 h
      · replace h := ifn c_16 h
        refine v_aload_n hC dX9_one_53 0 rfl ?_
        obtain ⟨r19, s18, hc_17, h⟩ := bd2 h
        refine v_callVI hC mE_ok (n := 0) (As := []) (hkE hc_17) (cwV 0 hC.1.2.2.2.2 gX9_one_X9_either rfl rfl rfl (by decide +kernel) ⟨(by first | omega | (dsimp only; omega)), (by first | omega | (dsimp only; omega))⟩) hO0 (by decide) rfl rfl rfl (Nat.le_of_ble_eq_true rfl) ⟨Nat.zero_le _, Nat.zero_le _⟩ dX9_one_54 rfl ?_
        refine v_istore_n (L' := [(0, .ref (G.2.2.1 0)), (1, .int r19)]) hC dX9_one_57 (by decide) [1, 0] rfl ?_
        refine v_aload_n hC dX9_one_58 0 rfl ?_
        refine v_bipush (v := 41) hC dX9_one_59 (by decide) ?_
        obtain ⟨r22, s21, hc_20, h⟩ := bd2 h
        refine v_callVI hC mE_ok (n := 1) (As := [.int 41]) (k_X9_isSign l hG (hO0) hc_20) (cwV 1 hC.1.2.2.2.2 gX9_one_X9_isSign rfl rfl rfl (by decide +kernel) ⟨(by first | omega | (dsimp only; omega) | (dsimp only [rmX9_isSign]; omega)), (by first | omega | (dsimp only; omega) | (dsimp only [rmX9_isSign]; omega))⟩) hO0 (by decide) rfl rfl rfl (Nat.le_of_ble_eq_true rfl) ⟨Nat.zero_le _, Nat.zero_le _⟩ dX9_one_61 rfl ?_
        refine v_if_ne (tgt := 71) hC dX9_one_64 (by decide) (fun c_23 => ?_) (fun c_23 => ?_)
        · replace h := ifn c_23 h
          exact w_X9_one_71 hkE hkN hkO hG (hO0) hC h
        · replace h := ift c_23 h
          refine v_aload_n hC dX9_one_67 0 rfl ?_
          obtain ⟨s25, hc_24, h⟩ := bd1 h
          refine v_callVV hC mE_ok (n := 0) (As := []) (k_X9_fail l hG (hO0) hc_24) (cwV 0 hC.1.2.2.2.2 gX9_one_X9_fail rfl rfl rfl (by decide +kernel) ⟨(by first | omega | (dsimp only; omega) | (dsimp only [rmX9_fail]; omega)), (by first | omega | (dsimp only; omega) | (dsimp only [rmX9_fail]; omega))⟩) hO0 (by decide) rfl rfl rfl (Nat.le_of_ble_eq_true rfl) ⟨Nat.zero_le _, Nat.zero_le _⟩ dX9_one_68 rfl ?_
          exact w_X9_one_71 hkE hkN hkO hG (hO0) hC h
  · replace h := ifn c_4 h
    refine v_aload_n hC dX9_one_11 0 rfl ?_
    obtain ⟨r28, s27, hc_26, h⟩ := bd2 h
    refine v_callVI hC mE_ok (n := 0) (As := []) (k_X9_opens l hG (hO0) hc_26) (cwV 0 hC.1.2.2.2.2 gX9_one_X9_opens rfl rfl rfl (by decide +kernel) ⟨(by first | omega | (dsimp only; omega) | (dsimp only [rmX9_opens]; omega)), (by first | omega | (dsimp only; omega) | (dsimp only [rmX9_opens]; omega))⟩) hO0 (by decide) rfl rfl rfl (Nat.le_of_ble_eq_true rfl) ⟨Nat.zero_le _, Nat.zero_le _⟩ dX9_one_12 rfl ?_
    refine v_if_eq (tgt := 161) hC dX9_one_15 (by decide) (fun c_29 => ?_) (fun c_29 => ?_)
    · replace h := ift c_29 h
      refine v_iload_n hC dX9_one_161 1 rfl ?_
      exact v_iret hC rfl dX9_one_162 h
    · replace h := ifn c_29 h
      refine v_aload_n hC dX9_one_18 0 rfl ?_
      obtain ⟨r32, s31, hc_30, h⟩ := bd2 h
      refine v_callVI hC mE_ok (n := 0) (As := []) (hkO hc_30) (cwV 0 hC.1.2.2.2.2 gX9_one_X9_one rfl rfl rfl (by decide +kernel) ⟨(by first | omega | (dsimp only; omega)), (by first | omega | (dsimp only; omega))⟩) hO0 (by decide) rfl rfl rfl (Nat.le_of_ble_eq_true rfl) ⟨Nat.zero_le _, Nat.zero_le _⟩ dX9_one_19 rfl ?_
      refine v_ineg hC dX9_one_22 ?_
      refine v_istore_n (L' := [(0, .ref (G.2.2.1 0)), (1, .int (-r32))]) hC dX9_one_23 (by decide) [1, 0] rfl ?_
      refine v_aload_n hC dX9_one_24 0 rfl ?_
      refine v_dup hC dX9_one_25 rfl ?_
      refine v_get (C := RX9) (T := TX9) (N := 45) (ci := 8) (k := 19) (v := .int (gI s31 0 19)) hC hO0 hi_X9_one_X9 rfl (by decide) (by decide) rfl rfl fl170_X9_one dX9_one_26 rfl ?_
      refine v_iconst (v := 1) hC dX9_one_29 (by decide) ?_
      refine v_isub hC dX9_one_30 ?_
      refine v_putI (C := RX9) (T := TX9) (N := 45) (ci := 8) (k := 19) (ty := .int) hC hO0 hi_X9_one_X9 rfl (by decide) (by decide) rfl rfl tyX9_ok nmX9 fl170_X9_one rfl rfl rfl rfl rfl dX9_one_31 ?_
      obtain ⟨s33, e34, h⟩ := ld h
      refine V.eq e34 ?_
      refine v_goto (tgt := 161) hC dX9_one_34 (by decide) ?_
      refine v_iload_n hC dX9_one_161 1 rfl ?_
      exact v_iret hC rfl dX9_one_162 h
theorem k_X9_one (l : Launch) {G : WD} {fr lo : Nat} {kE : HS → Option (Int32 × HS)} {kN : HS → Option (Int32 × HS)} {kO : HS → Option (Int32 × HS)} {r0 : Int32} {τ : HS}  {σ : HS} (hkE : ∀ {σ τ : HS} {r : Int32}, kE σ = some (r, τ) → MI mE l yX9_either wsX9_either { frames := fr + 15, cells := 0, slots := 0, locals := lo + 800 } G mY [.ref (G.2.2.1 0)] σ r τ) (hkN : ∀ {σ τ : HS} {r : Int32}, kN σ = some (r, τ) → MI mE l yX9_not wsX9_not { frames := fr + 13, cells := 0, slots := 0, locals := lo + 720 } G mY [.ref (G.2.2.1 0)] σ r τ) (hkO : ∀ {σ τ : HS} {r : Int32}, kO σ = some (r, τ) → MI mE l yX9_one wsX9_one { frames := fr + 10, cells := 0, slots := 0, locals := lo + 600 } G mY [.ref (G.2.2.1 0)] σ r τ) (hG : GX G mY) (hO0 : Ob G mY 0 8) (h : c_X9_one kE kN kO  σ = some (r0, τ)) : MI mE l yX9_one wsX9_one { frames := fr + 20 + 10, cells := 0, slots := 0, locals := lo + 900 + 600 } G mY [.ref (G.2.2.1 0)] σ r0 τ :=
  MI.of RX9 (by decide) rfl rfl (Nat.le_of_ble_eq_true rfl) rfl rfl (fun p e s m below meth c hC => w_X9_one hkE hkN hkO hG hO0 hC h)
def c_X9_term_5 (kE : HS → Option (Int32 × HS)) (kN : HS → Option (Int32 × HS)) (kO : HS → Option (Int32 × HS)) : Nat → Int32 → HS → Option (Int32 × HS)
  | 0, _, _ => none
  | n + 1, x1, σ => (bi2 (c_X9_isSign 42 σ) (fun r6 s5 => (if r6 = 0 then (some (x1, s5)) else (bi1 (c_X9_next1 s5) (fun s9 => (bi2 (c_X9_one kE kN kO s9) (fun r12 s11 => (c_X9_term_5 kE kN kO n (x1 * r12) s11))))))))
set_option maxHeartbeats 4000000 in
set_option maxRecDepth 100000 in
theorem w_X9_term_5 {p : Program} {l : Launch} {e : Env} {s : State} {m : MethodId} {args : Array Value} {below : List Frame} {meth : Method} {c : Code} {A : Nat → Prop} {G : WD} {fr lo : Nat} {kE : HS → Option (Int32 × HS)} {kN : HS → Option (Int32 × HS)} {kO : HS → Option (Int32 × HS)} {r0 : Int32} {τ : HS}  (hkE : ∀ {σ τ : HS} {r : Int32}, kE σ = some (r, τ) → MI mE l yX9_either wsX9_either { frames := fr + 15, cells := 0, slots := 0, locals := lo + 800 } G mY [.ref (G.2.2.1 0)] σ r τ) (hkN : ∀ {σ τ : HS} {r : Int32}, kN σ = some (r, τ) → MI mE l yX9_not wsX9_not { frames := fr + 13, cells := 0, slots := 0, locals := lo + 720 } G mY [.ref (G.2.2.1 0)] σ r τ) (hkO : ∀ {σ τ : HS} {r : Int32}, kO σ = some (r, τ) → MI mE l yX9_one wsX9_one { frames := fr + 10, cells := 0, slots := 0, locals := lo + 600 } G mY [.ref (G.2.2.1 0)] σ r τ) (hG : GX G mY) (hO0 : Ob G mY 0 8) (hC : Cx mE G.1 G.2.1 mY cX9_term 2 (some .int) RX9 wsX9_term p s m args meth c A)  : ∀ (n : Nat) (x1 : Int32) (σ : HS), c_X9_term_5 kE kN kO n x1 σ = some (r0, τ) → V p l e { frames := fr + 20 + 11, cells := 0, slots := 0, locals := lo + 900 + 640 } s m args below meth c 2 A G mY 0 0 (MQ below (QI G mY A r0 τ) args s 0 0 A) σ 5 [(0, .ref (G.2.2.1 0)), (1, .int x1)] [] := by
  intro n
  induction n with
  | zero => intro x1 σ h; exact nof h
  | succ n ih =>
    intro x1 σ h
    rw [c_X9_term_5] at h
    refine v_aload_n hC dX9_term_5 0 rfl ?_
    refine v_bipush (v := 42) hC dX9_term_6 (by decide) ?_
    obtain ⟨r6, s5, hc_4, h⟩ := bd2 h
    refine v_callVI hC mE_ok (n := 1) (As := [.int 42]) (k_X9_isSign l hG (hO0) hc_4) (cwV 1 hC.1.2.2.2.2 gX9_term_X9_isSign rfl rfl rfl (by decide +kernel) ⟨(by first | omega | (dsimp only; omega) | (dsimp only [rmX9_isSign]; omega)), (by first | omega | (dsimp only; omega) | (dsimp only [rmX9_isSign]; omega))⟩) hO0 (by decide) rfl rfl rfl (Nat.le_of_ble_eq_true rfl) ⟨Nat.zero_le _, Nat.zero_le _⟩ dX9_term_8 rfl ?_
    refine v_if_eq (tgt := 28) hC dX9_term_11 (by decide) (fun c_7 => ?_) (fun c_7 => ?_)
    · replace h := ift c_7 h
      refine v_iload_n hC dX9_term_28 1 rfl ?_
      exact v_iret hC rfl dX9_term_29 h
    · replace h := ifn c_7 h
      refine v_aload_n hC dX9_term_14 0 rfl ?_
      obtain ⟨s9, hc_8, h⟩ := bd1 h
      refine v_callVV hC mE_ok (n := 0) (As := []) (k_X9_next1 l hG (hO0) hc_8) (cwV 0 hC.1.2.2.2.2 gX9_term_X9_next1 rfl rfl rfl (by decide +kernel) ⟨(by first | omega | (dsimp only; omega) | (dsimp only [rmX9_next1]; omega)), (by first | omega | (dsimp only; omega) | (dsimp only [rmX9_next1]; omega))⟩) hO0 (by decide) rfl rfl rfl (Nat.le_of_ble_eq_true rfl) ⟨Nat.zero_le _, Nat.zero_le _⟩ dX9_term_15 rfl ?_
      refine v_iload_n hC dX9_term_18 1 rfl ?_
      refine v_aload_n hC dX9_term_19 0 rfl ?_
      obtain ⟨r12, s11, hc_10, h⟩ := bd2 h
      refine v_callVI hC mE_ok (n := 0) (As := []) (k_X9_one l hkE hkN hkO hG (hO0) hc_10) (cwV 0 hC.1.2.2.2.2 gX9_term_X9_one rfl rfl rfl (by decide +kernel) ⟨(by first | omega | (dsimp only; omega)), (by first | omega | (dsimp only; omega))⟩) hO0 (by decide) rfl rfl rfl (Nat.le_of_ble_eq_true rfl) ⟨Nat.zero_le _, Nat.zero_le _⟩ dX9_term_20 rfl ?_
      refine v_imul hC dX9_term_23 ?_
      refine v_istore_n (L' := [(0, .ref (G.2.2.1 0)), (1, .int (x1 * r12))]) hC dX9_term_24 (by decide) [1, 0] rfl ?_
      refine v_goto (tgt := 5) hC dX9_term_25 (by decide) ?_
      exact ih _ _ h
def c_X9_term (kE : HS → Option (Int32 × HS)) (kN : HS → Option (Int32 × HS)) (kO : HS → Option (Int32 × HS)) (σ : HS) : Option (Int32 × HS) := (bi2 (c_X9_one kE kN kO σ) (fun r3 s2 => (c_X9_term_5 kE kN kO FU r3 s2)))
set_option maxHeartbeats 4000000 in
set_option maxRecDepth 100000 in
theorem w_X9_term {p : Program} {l : Launch} {e : Env} {s : State} {m : MethodId} {args : Array Value} {below : List Frame} {meth : Method} {c : Code} {A : Nat → Prop} {G : WD} {fr lo : Nat} {kE : HS → Option (Int32 × HS)} {kN : HS → Option (Int32 × HS)} {kO : HS → Option (Int32 × HS)} {r0 : Int32} {τ : HS}  {σ : HS} (hkE : ∀ {σ τ : HS} {r : Int32}, kE σ = some (r, τ) → MI mE l yX9_either wsX9_either { frames := fr + 15, cells := 0, slots := 0, locals := lo + 800 } G mY [.ref (G.2.2.1 0)] σ r τ) (hkN : ∀ {σ τ : HS} {r : Int32}, kN σ = some (r, τ) → MI mE l yX9_not wsX9_not { frames := fr + 13, cells := 0, slots := 0, locals := lo + 720 } G mY [.ref (G.2.2.1 0)] σ r τ) (hkO : ∀ {σ τ : HS} {r : Int32}, kO σ = some (r, τ) → MI mE l yX9_one wsX9_one { frames := fr + 10, cells := 0, slots := 0, locals := lo + 600 } G mY [.ref (G.2.2.1 0)] σ r τ) (hG : GX G mY) (hO0 : Ob G mY 0 8) (hC : Cx mE G.1 G.2.1 mY cX9_term 2 (some .int) RX9 wsX9_term p s m args meth c A) (h : c_X9_term kE kN kO  σ = some (r0, τ)) : V p l e { frames := fr + 20 + 11, cells := 0, slots := 0, locals := lo + 900 + 640 } s m args below meth c 2 A G mY 0 0 (MQ below (QI G mY A r0 τ) args s 0 0 A) σ 0 [(0, .ref (G.2.2.1 0))] [] := by
  rw [c_X9_term] at h
  refine v_aload_n hC dX9_term_0 0 rfl ?_
  obtain ⟨r3, s2, hc_1, h⟩ := bd2 h
  refine v_callVI hC mE_ok (n := 0) (As := []) (k_X9_one l hkE hkN hkO hG (hO0) hc_1) (cwV 0 hC.1.2.2.2.2 gX9_term_X9_one rfl rfl rfl (by decide +kernel) ⟨(by first | omega | (dsimp only; omega)), (by first | omega | (dsimp only; omega))⟩) hO0 (by decide) rfl rfl rfl (Nat.le_of_ble_eq_true rfl) ⟨Nat.zero_le _, Nat.zero_le _⟩ dX9_term_1 rfl ?_
  refine v_istore_n (L' := [(0, .ref (G.2.2.1 0)), (1, .int r3)]) hC dX9_term_4 (by decide) [1, 0] rfl ?_
  exact w_X9_term_5 hkE hkN hkO hG (hO0) hC FU _ _ h
theorem k_X9_term (l : Launch) {G : WD} {fr lo : Nat} {kE : HS → Option (Int32 × HS)} {kN : HS → Option (Int32 × HS)} {kO : HS → Option (Int32 × HS)} {r0 : Int32} {τ : HS}  {σ : HS} (hkE : ∀ {σ τ : HS} {r : Int32}, kE σ = some (r, τ) → MI mE l yX9_either wsX9_either { frames := fr + 15, cells := 0, slots := 0, locals := lo + 800 } G mY [.ref (G.2.2.1 0)] σ r τ) (hkN : ∀ {σ τ : HS} {r : Int32}, kN σ = some (r, τ) → MI mE l yX9_not wsX9_not { frames := fr + 13, cells := 0, slots := 0, locals := lo + 720 } G mY [.ref (G.2.2.1 0)] σ r τ) (hkO : ∀ {σ τ : HS} {r : Int32}, kO σ = some (r, τ) → MI mE l yX9_one wsX9_one { frames := fr + 10, cells := 0, slots := 0, locals := lo + 600 } G mY [.ref (G.2.2.1 0)] σ r τ) (hG : GX G mY) (hO0 : Ob G mY 0 8) (h : c_X9_term kE kN kO  σ = some (r0, τ)) : MI mE l yX9_term wsX9_term { frames := fr + 20 + 11, cells := 0, slots := 0, locals := lo + 900 + 640 } G mY [.ref (G.2.2.1 0)] σ r0 τ :=
  MI.of RX9 (by decide) rfl rfl (Nat.le_of_ble_eq_true rfl) rfl rfl (fun p e s m below meth c hC => w_X9_term hkE hkN hkO hG hO0 hC h)
def c_X9_added_62 (kE : HS → Option (Int32 × HS)) (kN : HS → Option (Int32 × HS)) (kO : HS → Option (Int32 × HS)) (k5 : Int32 → HS → Option (Int32 × HS)) (y0 : Int32) (σ : HS) : Option (Int32 × HS) := (k5 y0 σ)
set_option maxHeartbeats 4000000 in
set_option maxRecDepth 100000 in
theorem w_X9_added_62 {p : Program} {l : Launch} {e : Env} {s : State} {m : MethodId} {args : Array Value} {below : List Frame} {meth : Method} {c : Code} {A : Nat → Prop} {G : WD} {fr lo : Nat} {kE : HS → Option (Int32 × HS)} {kN : HS → Option (Int32 × HS)} {kO : HS → Option (Int32 × HS)} {r0 : Int32} {τ : HS}  {k5 : Int32 → HS → Option (Int32 × HS)} {y0 : Int32} {σ : HS} (hkE : ∀ {σ τ : HS} {r : Int32}, kE σ = some (r, τ) → MI mE l yX9_either wsX9_either { frames := fr + 15, cells := 0, slots := 0, locals := lo + 800 } G mY [.ref (G.2.2.1 0)] σ r τ) (hkN : ∀ {σ τ : HS} {r : Int32}, kN σ = some (r, τ) → MI mE l yX9_not wsX9_not { frames := fr + 13, cells := 0, slots := 0, locals := lo + 720 } G mY [.ref (G.2.2.1 0)] σ r τ) (hkO : ∀ {σ τ : HS} {r : Int32}, kO σ = some (r, τ) → MI mE l yX9_one wsX9_one { frames := fr + 10, cells := 0, slots := 0, locals := lo + 600 } G mY [.ref (G.2.2.1 0)] σ r τ) (hG : GX G mY) (hO0 : Ob G mY 0 8) (hC : Cx mE G.1 G.2.1 mY cX9_added 4 (some .int) RX9 wsX9_added p s m args meth c A) (hk5 : ∀ (x1 : Int32) (σ : HS), k5 x1 σ = some (r0, τ) → V p l e { frames := fr + 20 + 12, cells := 0, slots := 0, locals := lo + 900 + 680 } s m args below meth c 4 A G mY 0 0 (MQ below (QI G mY A r0 τ) args s 0 0 A) σ 5 [(0, .ref (G.2.2.1 0)), (1, .int x1)] []) (h : c_X9_added_62 kE kN kO k5 y0 σ = some (r0, τ)) : V p l e { frames := fr + 20 + 12, cells := 0, slots := 0, locals := lo + 900 + 680 } s m args below meth c 4 A G mY 0 0 (MQ below (QI G mY A r0 τ) args s 0 0 A) σ 62 [(0, .ref (G.2.2.1 0))] [.int y0] := by
  rw [c_X9_added_62] at h
  refine v_istore_n (L' := [(0, .ref (G.2.2.1 0)), (1, .int y0)]) hC dX9_added_62 (by decide) [1, 0] rfl ?_
  refine v_goto (tgt := 5) hC dX9_added_63 (by decide) ?_
  exact hk5 _ _ h
def c_X9_added_39 (kE : HS → Option (Int32 × HS)) (kN : HS → Option (Int32 × HS)) (kO : HS → Option (Int32 × HS)) (k5 : Int32 → HS → Option (Int32 × HS)) (x1 : Int32) (y0 : Int32) (σ : HS) : Option (Int32 × HS) := (bi1 (c_X9_next1 σ) (fun s14 => (bi2 (c_X9_term kE kN kO s14) (fun r17 s16 => (if y0 = 0 then (c_X9_added_62 kE kN kO k5 (x1 - r17) s16) else (c_X9_added_62 kE kN kO k5 (x1 + r17) s16))))))
set_option maxHeartbeats 4000000 in
set_option maxRecDepth 100000 in
theorem w_X9_added_39 {p : Program} {l : Launch} {e : Env} {s : State} {m : MethodId} {args : Array Value} {below : List Frame} {meth : Method} {c : Code} {A : Nat → Prop} {G : WD} {fr lo : Nat} {kE : HS → Option (Int32 × HS)} {kN : HS → Option (Int32 × HS)} {kO : HS → Option (Int32 × HS)} {r0 : Int32} {τ : HS}  {k5 : Int32 → HS → Option (Int32 × HS)} {x1 : Int32} {y0 : Int32} {σ : HS} (hkE : ∀ {σ τ : HS} {r : Int32}, kE σ = some (r, τ) → MI mE l yX9_either wsX9_either { frames := fr + 15, cells := 0, slots := 0, locals := lo + 800 } G mY [.ref (G.2.2.1 0)] σ r τ) (hkN : ∀ {σ τ : HS} {r : Int32}, kN σ = some (r, τ) → MI mE l yX9_not wsX9_not { frames := fr + 13, cells := 0, slots := 0, locals := lo + 720 } G mY [.ref (G.2.2.1 0)] σ r τ) (hkO : ∀ {σ τ : HS} {r : Int32}, kO σ = some (r, τ) → MI mE l yX9_one wsX9_one { frames := fr + 10, cells := 0, slots := 0, locals := lo + 600 } G mY [.ref (G.2.2.1 0)] σ r τ) (hG : GX G mY) (hO0 : Ob G mY 0 8) (hC : Cx mE G.1 G.2.1 mY cX9_added 4 (some .int) RX9 wsX9_added p s m args meth c A) (hk5 : ∀ (x1 : Int32) (σ : HS), k5 x1 σ = some (r0, τ) → V p l e { frames := fr + 20 + 12, cells := 0, slots := 0, locals := lo + 900 + 680 } s m args below meth c 4 A G mY 0 0 (MQ below (QI G mY A r0 τ) args s 0 0 A) σ 5 [(0, .ref (G.2.2.1 0)), (1, .int x1)] []) (h : c_X9_added_39 kE kN kO k5 x1 y0 σ = some (r0, τ)) : V p l e { frames := fr + 20 + 12, cells := 0, slots := 0, locals := lo + 900 + 680 } s m args below meth c 4 A G mY 0 0 (MQ below (QI G mY A r0 τ) args s 0 0 A) σ 39 [(0, .ref (G.2.2.1 0)), (1, .int x1)] [.int y0] := by
  rw [c_X9_added_39] at h
  refine v_istore_n (L' := [(0, .ref (G.2.2.1 0)), (1, .int x1), (2, .int y0)]) hC dX9_added_39 (by decide) [1, 2, 0] rfl ?_
  refine v_aload_n hC dX9_added_40 0 rfl ?_
  obtain ⟨s14, hc_13, h⟩ := bd1 h
  refine v_callVV hC mE_ok (n := 0) (As := []) (k_X9_next1 l hG (hO0) hc_13) (cwV 0 hC.1.2.2.2.2 gX9_added_X9_next1 rfl rfl rfl (by decide +kernel) ⟨(by first | omega | (dsimp only; omega) | (dsimp only [rmX9_next1]; omega)), (by first | omega | (dsimp only; omega) | (dsimp only [rmX9_next1]; omega))⟩) hO0 (by decide) rfl rfl rfl (Nat.le_of_ble_eq_true rfl) ⟨Nat.zero_le _, Nat.zero_le _⟩ dX9_added_41 rfl ?_
  refine v_aload_n hC dX9_added_44 0 rfl ?_
  obtain ⟨r17, s16, hc_15, h⟩ := bd2 h
  refine v_callVI hC mE_ok (n := 0) (As := []) (k_X9_term l hkE hkN hkO hG (hO0) hc_15) (cwV 0 hC.1.2.2.2.2 gX9_added_X9_term rfl rfl rfl (by decide +kernel) ⟨(by first | omega | (dsimp only; omega)), (by first | omega | (dsimp only; omega))⟩) hO0 (by decide) rfl rfl rfl (Nat.le_of_ble_eq_true rfl) ⟨Nat.zero_le _, Nat.zero_le _⟩ dX9_added_45 rfl ?_
  refine v_istore_n (L' := [(0, .ref (G.2.2.1 0)), (1, .int x1), (2, .int y0), (3, .int r17)]) hC dX9_added_48 (by decide) [1, 2, 3, 0] rfl ?_
  refine v_iload_n hC dX9_added_49 2 rfl ?_
  refine v_if_eq (tgt := 59) hC dX9_added_50 (by decide) (fun c_18 => ?_) (fun c_18 => ?_)
  · replace h := ift c_18 h
    refine v_iload_n hC dX9_added_59 1 rfl ?_
    refine v_iload_n hC dX9_added_60 3 rfl ?_
    refine v_isub hC dX9_added_61 ?_
    refine V.sub (L' := [(0, .ref (G.2.2.1 0))]) [0] rfl ?_
    exact w_X9_added_62 hkE hkN hkO hG (hO0) hC hk5 h
  · replace h := ifn c_18 h
    refine v_iload_n hC dX9_added_53 1 rfl ?_
    refine v_iload_n hC dX9_added_54 3 rfl ?_
    refine v_iadd hC dX9_added_55 ?_
    refine v_goto (tgt := 62) hC dX9_added_56 (by decide) ?_
    refine V.sub (L' := [(0, .ref (G.2.2.1 0))]) [0] rfl ?_
    exact w_X9_added_62 hkE hkN hkO hG (hO0) hC hk5 h
def c_X9_added_23 (kE : HS → Option (Int32 × HS)) (kN : HS → Option (Int32 × HS)) (kO : HS → Option (Int32 × HS)) (k5 : Int32 → HS → Option (Int32 × HS)) (x1 : Int32) (σ : HS) : Option (Int32 × HS) := (if (lg_cmp (gJ σ 0 17) 43) = 0 then (c_X9_added_39 kE kN kO k5 x1 1 σ) else (c_X9_added_39 kE kN kO k5 x1 0 σ))
set_option maxHeartbeats 4000000 in
set_option maxRecDepth 100000 in
theorem w_X9_added_23 {p : Program} {l : Launch} {e : Env} {s : State} {m : MethodId} {args : Array Value} {below : List Frame} {meth : Method} {c : Code} {A : Nat → Prop} {G : WD} {fr lo : Nat} {kE : HS → Option (Int32 × HS)} {kN : HS → Option (Int32 × HS)} {kO : HS → Option (Int32 × HS)} {r0 : Int32} {τ : HS}  {k5 : Int32 → HS → Option (Int32 × HS)} {x1 : Int32} {σ : HS} (hkE : ∀ {σ τ : HS} {r : Int32}, kE σ = some (r, τ) → MI mE l yX9_either wsX9_either { frames := fr + 15, cells := 0, slots := 0, locals := lo + 800 } G mY [.ref (G.2.2.1 0)] σ r τ) (hkN : ∀ {σ τ : HS} {r : Int32}, kN σ = some (r, τ) → MI mE l yX9_not wsX9_not { frames := fr + 13, cells := 0, slots := 0, locals := lo + 720 } G mY [.ref (G.2.2.1 0)] σ r τ) (hkO : ∀ {σ τ : HS} {r : Int32}, kO σ = some (r, τ) → MI mE l yX9_one wsX9_one { frames := fr + 10, cells := 0, slots := 0, locals := lo + 600 } G mY [.ref (G.2.2.1 0)] σ r τ) (hG : GX G mY) (hO0 : Ob G mY 0 8) (hC : Cx mE G.1 G.2.1 mY cX9_added 4 (some .int) RX9 wsX9_added p s m args meth c A) (hk5 : ∀ (x1 : Int32) (σ : HS), k5 x1 σ = some (r0, τ) → V p l e { frames := fr + 20 + 12, cells := 0, slots := 0, locals := lo + 900 + 680 } s m args below meth c 4 A G mY 0 0 (MQ below (QI G mY A r0 τ) args s 0 0 A) σ 5 [(0, .ref (G.2.2.1 0)), (1, .int x1)] []) (h : c_X9_added_23 kE kN kO k5 x1 σ = some (r0, τ)) : V p l e { frames := fr + 20 + 12, cells := 0, slots := 0, locals := lo + 900 + 680 } s m args below meth c 4 A G mY 0 0 (MQ below (QI G mY A r0 τ) args s 0 0 A) σ 23 [(0, .ref (G.2.2.1 0)), (1, .int x1)] [] := by
  rw [c_X9_added_23] at h
  refine v_aload_n hC dX9_added_23 0 rfl ?_
  refine v_get (C := RX9) (T := TX9) (N := 45) (ci := 8) (k := 17) (v := .long (gJ σ 0 17)) hC hO0 hi_X9_added_X9 rfl (by decide) (by decide) rfl rfl fl149_X9_added dX9_added_24 rfl ?_
  refine v_ldc2 (v := 43) hC lc221_X9_added dX9_added_27 ?_
  refine v_lcmp hC dX9_added_30 ?_
  refine v_if_ne (tgt := 38) hC dX9_added_31 (by decide) (fun c_12 => ?_) (fun c_12 => ?_)
  · replace h := ifn c_12 h
    refine v_iconst (v := 0) hC dX9_added_38 (by decide) ?_
    exact w_X9_added_39 hkE hkN hkO hG (hO0) hC hk5 h
  · replace h := ift c_12 h
    refine v_iconst (v := 1) hC dX9_added_34 (by decide) ?_
    refine v_goto (tgt := 39) hC dX9_added_35 (by decide) ?_
    exact w_X9_added_39 hkE hkN hkO hG (hO0) hC hk5 h
def c_X9_added_5 (kE : HS → Option (Int32 × HS)) (kN : HS → Option (Int32 × HS)) (kO : HS → Option (Int32 × HS)) : Nat → Int32 → HS → Option (Int32 × HS)
  | 0, _, _ => none
  | n + 1, x1, σ => (bi2 (c_X9_isSign 43 σ) (fun r6 s5 => (if r6 = 0 then (bi2 (c_X9_isSign 45 s5) (fun r10 s9 => (if r10 = 0 then (some (x1, s9)) else (c_X9_added_23 kE kN kO (fun z0 z1 => c_X9_added_5 kE kN kO n z0 z1) x1 s9)))) else (c_X9_added_23 kE kN kO (fun z0 z1 => c_X9_added_5 kE kN kO n z0 z1) x1 s5))))
set_option maxHeartbeats 4000000 in
set_option maxRecDepth 100000 in
theorem w_X9_added_5 {p : Program} {l : Launch} {e : Env} {s : State} {m : MethodId} {args : Array Value} {below : List Frame} {meth : Method} {c : Code} {A : Nat → Prop} {G : WD} {fr lo : Nat} {kE : HS → Option (Int32 × HS)} {kN : HS → Option (Int32 × HS)} {kO : HS → Option (Int32 × HS)} {r0 : Int32} {τ : HS}  (hkE : ∀ {σ τ : HS} {r : Int32}, kE σ = some (r, τ) → MI mE l yX9_either wsX9_either { frames := fr + 15, cells := 0, slots := 0, locals := lo + 800 } G mY [.ref (G.2.2.1 0)] σ r τ) (hkN : ∀ {σ τ : HS} {r : Int32}, kN σ = some (r, τ) → MI mE l yX9_not wsX9_not { frames := fr + 13, cells := 0, slots := 0, locals := lo + 720 } G mY [.ref (G.2.2.1 0)] σ r τ) (hkO : ∀ {σ τ : HS} {r : Int32}, kO σ = some (r, τ) → MI mE l yX9_one wsX9_one { frames := fr + 10, cells := 0, slots := 0, locals := lo + 600 } G mY [.ref (G.2.2.1 0)] σ r τ) (hG : GX G mY) (hO0 : Ob G mY 0 8) (hC : Cx mE G.1 G.2.1 mY cX9_added 4 (some .int) RX9 wsX9_added p s m args meth c A)  : ∀ (n : Nat) (x1 : Int32) (σ : HS), c_X9_added_5 kE kN kO n x1 σ = some (r0, τ) → V p l e { frames := fr + 20 + 12, cells := 0, slots := 0, locals := lo + 900 + 680 } s m args below meth c 4 A G mY 0 0 (MQ below (QI G mY A r0 τ) args s 0 0 A) σ 5 [(0, .ref (G.2.2.1 0)), (1, .int x1)] [] := by
  intro n
  induction n with
  | zero => intro x1 σ h; exact nof h
  | succ n ih =>
    intro x1 σ h
    rw [c_X9_added_5] at h
    refine v_aload_n hC dX9_added_5 0 rfl ?_
    refine v_bipush (v := 43) hC dX9_added_6 (by decide) ?_
    obtain ⟨r6, s5, hc_4, h⟩ := bd2 h
    refine v_callVI hC mE_ok (n := 1) (As := [.int 43]) (k_X9_isSign l hG (hO0) hc_4) (cwV 1 hC.1.2.2.2.2 gX9_added_X9_isSign rfl rfl rfl (by decide +kernel) ⟨(by first | omega | (dsimp only; omega) | (dsimp only [rmX9_isSign]; omega)), (by first | omega | (dsimp only; omega) | (dsimp only [rmX9_isSign]; omega))⟩) hO0 (by decide) rfl rfl rfl (Nat.le_of_ble_eq_true rfl) ⟨Nat.zero_le _, Nat.zero_le _⟩ dX9_added_8 rfl ?_
    refine v_if_ne (tgt := 23) hC dX9_added_11 (by decide) (fun c_7 => ?_) (fun c_7 => ?_)
    · replace h := ifn c_7 h
      exact w_X9_added_23 hkE hkN hkO hG (hO0) hC (fun _ _ h => ih _ _ h) h
    · replace h := ift c_7 h
      refine v_aload_n hC dX9_added_14 0 rfl ?_
      refine v_bipush (v := 45) hC dX9_added_15 (by decide) ?_
      obtain ⟨r10, s9, hc_8, h⟩ := bd2 h
      refine v_callVI hC mE_ok (n := 1) (As := [.int 45]) (k_X9_isSign l hG (hO0) hc_8) (cwV 1 hC.1.2.2.2.2 gX9_added_X9_isSign rfl rfl rfl (by decide +kernel) ⟨(by first | omega | (dsimp only; omega) | (dsimp only [rmX9_isSign]; omega)), (by first | omega | (dsimp only; omega) | (dsimp only [rmX9_isSign]; omega))⟩) hO0 (by decide) rfl rfl rfl (Nat.le_of_ble_eq_true rfl) ⟨Nat.zero_le _, Nat.zero_le _⟩ dX9_added_17 rfl ?_
      refine v_if_eq (tgt := 66) hC dX9_added_20 (by decide) (fun c_11 => ?_) (fun c_11 => ?_)
      · replace h := ift c_11 h
        refine v_iload_n hC dX9_added_66 1 rfl ?_
        exact v_iret hC rfl dX9_added_67 h
      · replace h := ifn c_11 h
        exact w_X9_added_23 hkE hkN hkO hG (hO0) hC (fun _ _ h => ih _ _ h) h
def c_X9_added (kE : HS → Option (Int32 × HS)) (kN : HS → Option (Int32 × HS)) (kO : HS → Option (Int32 × HS)) (σ : HS) : Option (Int32 × HS) := (bi2 (c_X9_term kE kN kO σ) (fun r3 s2 => (c_X9_added_5 kE kN kO FU r3 s2)))
set_option maxHeartbeats 4000000 in
set_option maxRecDepth 100000 in
theorem w_X9_added {p : Program} {l : Launch} {e : Env} {s : State} {m : MethodId} {args : Array Value} {below : List Frame} {meth : Method} {c : Code} {A : Nat → Prop} {G : WD} {fr lo : Nat} {kE : HS → Option (Int32 × HS)} {kN : HS → Option (Int32 × HS)} {kO : HS → Option (Int32 × HS)} {r0 : Int32} {τ : HS}  {σ : HS} (hkE : ∀ {σ τ : HS} {r : Int32}, kE σ = some (r, τ) → MI mE l yX9_either wsX9_either { frames := fr + 15, cells := 0, slots := 0, locals := lo + 800 } G mY [.ref (G.2.2.1 0)] σ r τ) (hkN : ∀ {σ τ : HS} {r : Int32}, kN σ = some (r, τ) → MI mE l yX9_not wsX9_not { frames := fr + 13, cells := 0, slots := 0, locals := lo + 720 } G mY [.ref (G.2.2.1 0)] σ r τ) (hkO : ∀ {σ τ : HS} {r : Int32}, kO σ = some (r, τ) → MI mE l yX9_one wsX9_one { frames := fr + 10, cells := 0, slots := 0, locals := lo + 600 } G mY [.ref (G.2.2.1 0)] σ r τ) (hG : GX G mY) (hO0 : Ob G mY 0 8) (hC : Cx mE G.1 G.2.1 mY cX9_added 4 (some .int) RX9 wsX9_added p s m args meth c A) (h : c_X9_added kE kN kO  σ = some (r0, τ)) : V p l e { frames := fr + 20 + 12, cells := 0, slots := 0, locals := lo + 900 + 680 } s m args below meth c 4 A G mY 0 0 (MQ below (QI G mY A r0 τ) args s 0 0 A) σ 0 [(0, .ref (G.2.2.1 0))] [] := by
  rw [c_X9_added] at h
  refine v_aload_n hC dX9_added_0 0 rfl ?_
  obtain ⟨r3, s2, hc_1, h⟩ := bd2 h
  refine v_callVI hC mE_ok (n := 0) (As := []) (k_X9_term l hkE hkN hkO hG (hO0) hc_1) (cwV 0 hC.1.2.2.2.2 gX9_added_X9_term rfl rfl rfl (by decide +kernel) ⟨(by first | omega | (dsimp only; omega)), (by first | omega | (dsimp only; omega))⟩) hO0 (by decide) rfl rfl rfl (Nat.le_of_ble_eq_true rfl) ⟨Nat.zero_le _, Nat.zero_le _⟩ dX9_added_1 rfl ?_
  refine v_istore_n (L' := [(0, .ref (G.2.2.1 0)), (1, .int r3)]) hC dX9_added_4 (by decide) [1, 0] rfl ?_
  exact w_X9_added_5 hkE hkN hkO hG (hO0) hC FU _ _ h
theorem k_X9_added (l : Launch) {G : WD} {fr lo : Nat} {kE : HS → Option (Int32 × HS)} {kN : HS → Option (Int32 × HS)} {kO : HS → Option (Int32 × HS)} {r0 : Int32} {τ : HS}  {σ : HS} (hkE : ∀ {σ τ : HS} {r : Int32}, kE σ = some (r, τ) → MI mE l yX9_either wsX9_either { frames := fr + 15, cells := 0, slots := 0, locals := lo + 800 } G mY [.ref (G.2.2.1 0)] σ r τ) (hkN : ∀ {σ τ : HS} {r : Int32}, kN σ = some (r, τ) → MI mE l yX9_not wsX9_not { frames := fr + 13, cells := 0, slots := 0, locals := lo + 720 } G mY [.ref (G.2.2.1 0)] σ r τ) (hkO : ∀ {σ τ : HS} {r : Int32}, kO σ = some (r, τ) → MI mE l yX9_one wsX9_one { frames := fr + 10, cells := 0, slots := 0, locals := lo + 600 } G mY [.ref (G.2.2.1 0)] σ r τ) (hG : GX G mY) (hO0 : Ob G mY 0 8) (h : c_X9_added kE kN kO  σ = some (r0, τ)) : MI mE l yX9_added wsX9_added { frames := fr + 20 + 12, cells := 0, slots := 0, locals := lo + 900 + 680 } G mY [.ref (G.2.2.1 0)] σ r0 τ :=
  MI.of RX9 (by decide) rfl rfl (Nat.le_of_ble_eq_true rfl) rfl rfl (fun p e s m below meth c hC => w_X9_added hkE hkN hkO hG hO0 hC h)
def c_X9_not_85 (kE : HS → Option (Int32 × HS)) (kN : HS → Option (Int32 × HS)) (kO : HS → Option (Int32 × HS)) (x1 : Int32) (y0 : Int32) (σ : HS) : Option (Int32 × HS) := (bi1 (c_X9_next1 σ) (fun s28 => (bi2 (c_X9_added kE kN kO s28) (fun r31 s30 => (if y0 = 0 then (if x1 = r31 then (some (1, s30)) else (some (0, s30))) else (if r31 ≤ x1 then (some (0, s30)) else (some (1, s30))))))))
set_option maxHeartbeats 4000000 in
set_option maxRecDepth 100000 in
theorem w_X9_not_85 {p : Program} {l : Launch} {e : Env} {s : State} {m : MethodId} {args : Array Value} {below : List Frame} {meth : Method} {c : Code} {A : Nat → Prop} {G : WD} {fr lo : Nat} {kE : HS → Option (Int32 × HS)} {kN : HS → Option (Int32 × HS)} {kO : HS → Option (Int32 × HS)} {r0 : Int32} {τ : HS}  {x1 : Int32} {y0 : Int32} {σ : HS} (hkE : ∀ {σ τ : HS} {r : Int32}, kE σ = some (r, τ) → MI mE l yX9_either wsX9_either { frames := fr + 15, cells := 0, slots := 0, locals := lo + 800 } G mY [.ref (G.2.2.1 0)] σ r τ) (hkN : ∀ {σ τ : HS} {r : Int32}, kN σ = some (r, τ) → MI mE l yX9_not wsX9_not { frames := fr + 13, cells := 0, slots := 0, locals := lo + 720 } G mY [.ref (G.2.2.1 0)] σ r τ) (hkO : ∀ {σ τ : HS} {r : Int32}, kO σ = some (r, τ) → MI mE l yX9_one wsX9_one { frames := fr + 10, cells := 0, slots := 0, locals := lo + 600 } G mY [.ref (G.2.2.1 0)] σ r τ) (hG : GX G mY) (hO0 : Ob G mY 0 8) (hC : Cx mE G.1 G.2.1 mY cX9_not 4 (some .int) RX9 wsX9_not p s m args meth c A)  (h : c_X9_not_85 kE kN kO x1 y0 σ = some (r0, τ)) : V p l e { frames := fr + 20 + 13, cells := 0, slots := 0, locals := lo + 900 + 720 } s m args below meth c 4 A G mY 0 0 (MQ below (QI G mY A r0 τ) args s 0 0 A) σ 85 [(0, .ref (G.2.2.1 0)), (1, .int x1)] [.int y0] := by
  rw [c_X9_not_85] at h
  refine v_istore_n (L' := [(0, .ref (G.2.2.1 0)), (1, .int x1), (2, .int y0)]) hC dX9_not_85 (by decide) [1, 2, 0] rfl ?_
  refine v_aload_n hC dX9_not_86 0 rfl ?_
  obtain ⟨s28, hc_27, h⟩ := bd1 h
  refine v_callVV hC mE_ok (n := 0) (As := []) (k_X9_next1 l hG (hO0) hc_27) (cwV 0 hC.1.2.2.2.2 gX9_not_X9_next1 rfl rfl rfl (by decide +kernel) ⟨(by first | omega | (dsimp only; omega) | (dsimp only [rmX9_next1]; omega)), (by first | omega | (dsimp only; omega) | (dsimp only [rmX9_next1]; omega))⟩) hO0 (by decide) rfl rfl rfl (Nat.le_of_ble_eq_true rfl) ⟨Nat.zero_le _, Nat.zero_le _⟩ dX9_not_87 rfl ?_
  refine v_aload_n hC dX9_not_90 0 rfl ?_
  obtain ⟨r31, s30, hc_29, h⟩ := bd2 h
  refine v_callVI hC mE_ok (n := 0) (As := []) (k_X9_added l hkE hkN hkO hG (hO0) hc_29) (cwV 0 hC.1.2.2.2.2 gX9_not_X9_added rfl rfl rfl (by decide +kernel) ⟨(by first | omega | (dsimp only; omega)), (by first | omega | (dsimp only; omega))⟩) hO0 (by decide) rfl rfl rfl (Nat.le_of_ble_eq_true rfl) ⟨Nat.zero_le _, Nat.zero_le _⟩ dX9_not_91 rfl ?_
  refine v_istore_n (L' := [(1, .int x1), (2, .int y0), (3, .int r31)]) hC dX9_not_94 (by decide) [2, 3, 0] rfl ?_
  refine v_iload_n hC dX9_not_95 1 rfl ?_
  refine v_if_eq (tgt := 107) hC dX9_not_96 (by decide) (fun c_32 => ?_) (fun c_32 => ?_)
  · replace h := ift c_32 h
    refine v_iload_n hC dX9_not_107 0 rfl ?_
    refine v_iload_n hC dX9_not_108 2 rfl ?_
    refine v_icmp_ne (tgt := 116) hC dX9_not_109 (by decide) (fun c_33 => ?_) (fun c_33 => ?_)
    · replace h := ifn c_33 h
      refine v_iconst (v := 0) hC dX9_not_116 (by decide) ?_
      exact v_iret hC rfl dX9_not_117 h
    · replace h := ift c_33 h
      refine v_iconst (v := 1) hC dX9_not_112 (by decide) ?_
      refine v_goto (tgt := 117) hC dX9_not_113 (by decide) ?_
      exact v_iret hC rfl dX9_not_117 h
  · replace h := ifn c_32 h
    refine v_iload_n hC dX9_not_99 0 rfl ?_
    refine v_iload_n hC dX9_not_100 2 rfl ?_
    refine v_icmp_ge (tgt := 116) hC dX9_not_101 (by decide) (fun c_34 => ?_) (fun c_34 => ?_)
    · replace h := ift c_34 h
      refine v_iconst (v := 0) hC dX9_not_116 (by decide) ?_
      exact v_iret hC rfl dX9_not_117 h
    · replace h := ifn c_34 h
      refine v_goto (tgt := 112) hC dX9_not_104 (by decide) ?_
      refine v_iconst (v := 1) hC dX9_not_112 (by decide) ?_
      refine v_goto (tgt := 117) hC dX9_not_113 (by decide) ?_
      exact v_iret hC rfl dX9_not_117 h
def c_X9_not_69 (kE : HS → Option (Int32 × HS)) (kN : HS → Option (Int32 × HS)) (kO : HS → Option (Int32 × HS)) (x1 : Int32) (σ : HS) : Option (Int32 × HS) := (if (lg_cmp (gJ σ 0 17) 60) = 0 then (c_X9_not_85 kE kN kO x1 1 σ) else (c_X9_not_85 kE kN kO x1 0 σ))
set_option maxHeartbeats 4000000 in
set_option maxRecDepth 100000 in
theorem w_X9_not_69 {p : Program} {l : Launch} {e : Env} {s : State} {m : MethodId} {args : Array Value} {below : List Frame} {meth : Method} {c : Code} {A : Nat → Prop} {G : WD} {fr lo : Nat} {kE : HS → Option (Int32 × HS)} {kN : HS → Option (Int32 × HS)} {kO : HS → Option (Int32 × HS)} {r0 : Int32} {τ : HS}  {x1 : Int32} {σ : HS} (hkE : ∀ {σ τ : HS} {r : Int32}, kE σ = some (r, τ) → MI mE l yX9_either wsX9_either { frames := fr + 15, cells := 0, slots := 0, locals := lo + 800 } G mY [.ref (G.2.2.1 0)] σ r τ) (hkN : ∀ {σ τ : HS} {r : Int32}, kN σ = some (r, τ) → MI mE l yX9_not wsX9_not { frames := fr + 13, cells := 0, slots := 0, locals := lo + 720 } G mY [.ref (G.2.2.1 0)] σ r τ) (hkO : ∀ {σ τ : HS} {r : Int32}, kO σ = some (r, τ) → MI mE l yX9_one wsX9_one { frames := fr + 10, cells := 0, slots := 0, locals := lo + 600 } G mY [.ref (G.2.2.1 0)] σ r τ) (hG : GX G mY) (hO0 : Ob G mY 0 8) (hC : Cx mE G.1 G.2.1 mY cX9_not 4 (some .int) RX9 wsX9_not p s m args meth c A)  (h : c_X9_not_69 kE kN kO x1 σ = some (r0, τ)) : V p l e { frames := fr + 20 + 13, cells := 0, slots := 0, locals := lo + 900 + 720 } s m args below meth c 4 A G mY 0 0 (MQ below (QI G mY A r0 τ) args s 0 0 A) σ 69 [(0, .ref (G.2.2.1 0)), (1, .int x1)] [] := by
  rw [c_X9_not_69] at h
  refine v_aload_n hC dX9_not_69 0 rfl ?_
  refine v_get (C := RX9) (T := TX9) (N := 45) (ci := 8) (k := 17) (v := .long (gJ σ 0 17)) hC hO0 hi_X9_not_X9 rfl (by decide) (by decide) rfl rfl fl149_X9_not dX9_not_70 rfl ?_
  refine v_ldc2 (v := 60) hC lc231_X9_not dX9_not_73 ?_
  refine v_lcmp hC dX9_not_76 ?_
  refine v_if_ne (tgt := 84) hC dX9_not_77 (by decide) (fun c_26 => ?_) (fun c_26 => ?_)
  · replace h := ifn c_26 h
    refine v_iconst (v := 0) hC dX9_not_84 (by decide) ?_
    exact w_X9_not_85 hkE hkN hkO hG (hO0) hC h
  · replace h := ift c_26 h
    refine v_iconst (v := 1) hC dX9_not_80 (by decide) ?_
    refine v_goto (tgt := 85) hC dX9_not_81 (by decide) ?_
    exact w_X9_not_85 hkE hkN hkO hG (hO0) hC h
def c_X9_not (kE : HS → Option (Int32 × HS)) (kN : HS → Option (Int32 × HS)) (kO : HS → Option (Int32 × HS)) (σ : HS) : Option (Int32 × HS) := (bi2 (c_X9_isWord 10631 σ) (fun r3 s2 => (if r3 = 0 then (bi2 (c_X9_added kE kN kO s2) (fun r7 s6 => (bi2 (c_X9_isSign 60 s6) (fun r10 s9 => (if r10 = 0 then (bi2 (c_X9_isSign 61 s9) (fun r14 s13 => (if r14 = 0 then (some (r7, s13)) else (c_X9_not_69 kE kN kO r7 s13)))) else (c_X9_not_69 kE kN kO r7 s9)))))) else (bi2 (c_X9_opens s2) (fun r18 s17 => (if r18 = 0 then (some (0, s17)) else (bi2 (kN s17) (fun r22 s21 => (lt (sI s21 0 19 ((gI s21 0 19) - 1)) (fun s23 => (if r22 = 0 then (some (1, s23)) else (some (0, s23)))))))))))))
set_option maxHeartbeats 4000000 in
set_option maxRecDepth 100000 in
theorem w_X9_not {p : Program} {l : Launch} {e : Env} {s : State} {m : MethodId} {args : Array Value} {below : List Frame} {meth : Method} {c : Code} {A : Nat → Prop} {G : WD} {fr lo : Nat} {kE : HS → Option (Int32 × HS)} {kN : HS → Option (Int32 × HS)} {kO : HS → Option (Int32 × HS)} {r0 : Int32} {τ : HS}  {σ : HS} (hkE : ∀ {σ τ : HS} {r : Int32}, kE σ = some (r, τ) → MI mE l yX9_either wsX9_either { frames := fr + 15, cells := 0, slots := 0, locals := lo + 800 } G mY [.ref (G.2.2.1 0)] σ r τ) (hkN : ∀ {σ τ : HS} {r : Int32}, kN σ = some (r, τ) → MI mE l yX9_not wsX9_not { frames := fr + 13, cells := 0, slots := 0, locals := lo + 720 } G mY [.ref (G.2.2.1 0)] σ r τ) (hkO : ∀ {σ τ : HS} {r : Int32}, kO σ = some (r, τ) → MI mE l yX9_one wsX9_one { frames := fr + 10, cells := 0, slots := 0, locals := lo + 600 } G mY [.ref (G.2.2.1 0)] σ r τ) (hG : GX G mY) (hO0 : Ob G mY 0 8) (hC : Cx mE G.1 G.2.1 mY cX9_not 4 (some .int) RX9 wsX9_not p s m args meth c A) (h : c_X9_not kE kN kO  σ = some (r0, τ)) : V p l e { frames := fr + 20 + 13, cells := 0, slots := 0, locals := lo + 900 + 720 } s m args below meth c 4 A G mY 0 0 (MQ below (QI G mY A r0 τ) args s 0 0 A) σ 0 [(0, .ref (G.2.2.1 0))] [] := by
  rw [c_X9_not] at h
  refine v_aload_n hC dX9_not_0 0 rfl ?_
  refine v_ldc2 (v := 10631) hC lc223_X9_not dX9_not_1 ?_
  obtain ⟨r3, s2, hc_1, h⟩ := bd2 h
  refine v_callVI hC mE_ok (n := 1) (As := [.long 10631]) (k_X9_isWord l hG (hO0) hc_1) (cwV 1 hC.1.2.2.2.2 gX9_not_X9_isWord rfl rfl rfl (by decide +kernel) ⟨(by first | omega | (dsimp only; omega) | (dsimp only [rmX9_isWord]; omega)), (by first | omega | (dsimp only; omega) | (dsimp only [rmX9_isWord]; omega))⟩) hO0 (by decide) rfl rfl rfl (Nat.le_of_ble_eq_true rfl) ⟨Nat.zero_le _, Nat.zero_le _⟩ dX9_not_4 rfl ?_
  refine v_if_eq (tgt := 44) hC dX9_not_7 (by decide) (fun c_4 => ?_) (fun c_4 => ?_)
  · replace h := ift c_4 h
    refine v_aload_n hC dX9_not_44 0 rfl ?_
    obtain ⟨r7, s6, hc_5, h⟩ := bd2 h
    refine v_callVI hC mE_ok (n := 0) (As := []) (k_X9_added l hkE hkN hkO hG (hO0) hc_5) (cwV 0 hC.1.2.2.2.2 gX9_not_X9_added rfl rfl rfl (by decide +kernel) ⟨(by first | omega | (dsimp only; omega)), (by first | omega | (dsimp only; omega))⟩) hO0 (by decide) rfl rfl rfl (Nat.le_of_ble_eq_true rfl) ⟨Nat.zero_le _, Nat.zero_le _⟩ dX9_not_45 rfl ?_
    refine v_istore_n (L' := [(0, .ref (G.2.2.1 0)), (1, .int r7)]) hC dX9_not_48 (by decide) [1, 0] rfl ?_
    refine v_aload_n hC dX9_not_49 0 rfl ?_
    refine v_bipush (v := 60) hC dX9_not_50 (by decide) ?_
    obtain ⟨r10, s9, hc_8, h⟩ := bd2 h
    refine v_callVI hC mE_ok (n := 1) (As := [.int 60]) (k_X9_isSign l hG (hO0) hc_8) (cwV 1 hC.1.2.2.2.2 gX9_not_X9_isSign rfl rfl rfl (by decide +kernel) ⟨(by first | omega | (dsimp only; omega) | (dsimp only [rmX9_isSign]; omega)), (by first | omega | (dsimp only; omega) | (dsimp only [rmX9_isSign]; omega))⟩) hO0 (by decide) rfl rfl rfl (Nat.le_of_ble_eq_true rfl) ⟨Nat.zero_le _, Nat.zero_le _⟩ dX9_not_52 rfl ?_
    refine v_if_ne (tgt := 69) hC dX9_not_55 (by decide) (fun c_11 => ?_) (fun c_11 => ?_)
    · replace h := ifn c_11 h
      exact w_X9_not_69 hkE hkN hkO hG (hO0) hC h
    · replace h := ift c_11 h
      refine v_aload_n hC dX9_not_58 0 rfl ?_
      refine v_bipush (v := 61) hC dX9_not_59 (by decide) ?_
      obtain ⟨r14, s13, hc_12, h⟩ := bd2 h
      refine v_callVI hC mE_ok (n := 1) (As := [.int 61]) (k_X9_isSign l hG (hO0) hc_12) (cwV 1 hC.1.2.2.2.2 gX9_not_X9_isSign rfl rfl rfl (by decide +kernel) ⟨(by first | omega | (dsimp only; omega) | (dsimp only [rmX9_isSign]; omega)), (by first | omega | (dsimp only; omega) | (dsimp only [rmX9_isSign]; omega))⟩) hO0 (by decide) rfl rfl rfl (Nat.le_of_ble_eq_true rfl) ⟨Nat.zero_le _, Nat.zero_le _⟩ dX9_not_61 rfl ?_
      refine v_if_ne (tgt := 69) hC dX9_not_64 (by decide) (fun c_15 => ?_) (fun c_15 => ?_)
      · replace h := ifn c_15 h
        exact w_X9_not_69 hkE hkN hkO hG (hO0) hC h
      · replace h := ift c_15 h
        refine v_iload_n hC dX9_not_67 1 rfl ?_
        exact v_iret hC rfl dX9_not_68 h
  · replace h := ifn c_4 h
    refine v_aload_n hC dX9_not_10 0 rfl ?_
    obtain ⟨r18, s17, hc_16, h⟩ := bd2 h
    refine v_callVI hC mE_ok (n := 0) (As := []) (k_X9_opens l hG (hO0) hc_16) (cwV 0 hC.1.2.2.2.2 gX9_not_X9_opens rfl rfl rfl (by decide +kernel) ⟨(by first | omega | (dsimp only; omega) | (dsimp only [rmX9_opens]; omega)), (by first | omega | (dsimp only; omega) | (dsimp only [rmX9_opens]; omega))⟩) hO0 (by decide) rfl rfl rfl (Nat.le_of_ble_eq_true rfl) ⟨Nat.zero_le _, Nat.zero_le _⟩ dX9_not_11 rfl ?_
    refine v_if_ne (tgt := 19) hC dX9_not_14 (by decide) (fun c_19 => ?_) (fun c_19 => ?_)
    · replace h := ifn c_19 h
      refine v_aload_n hC dX9_not_19 0 rfl ?_
      obtain ⟨r22, s21, hc_20, h⟩ := bd2 h
      refine v_callVI hC mE_ok (n := 0) (As := []) (hkN hc_20) (cwV 0 hC.1.2.2.2.2 gX9_not_X9_not rfl rfl rfl (by decide +kernel) ⟨(by first | omega | (dsimp only; omega)), (by first | omega | (dsimp only; omega))⟩) hO0 (by decide) rfl rfl rfl (Nat.le_of_ble_eq_true rfl) ⟨Nat.zero_le _, Nat.zero_le _⟩ dX9_not_20 rfl ?_
      refine v_istore_n (L' := [(0, .ref (G.2.2.1 0)), (1, .int r22)]) hC dX9_not_23 (by decide) [1, 0] rfl ?_
      refine v_aload_n hC dX9_not_24 0 rfl ?_
      refine v_dup hC dX9_not_25 rfl ?_
      refine v_get (C := RX9) (T := TX9) (N := 45) (ci := 8) (k := 19) (v := .int (gI s21 0 19)) hC hO0 hi_X9_not_X9 rfl (by decide) (by decide) rfl rfl fl170_X9_not dX9_not_26 rfl ?_
      refine v_iconst (v := 1) hC dX9_not_29 (by decide) ?_
      refine v_isub hC dX9_not_30 ?_
      refine v_putI (C := RX9) (T := TX9) (N := 45) (ci := 8) (k := 19) (ty := .int) hC hO0 hi_X9_not_X9 rfl (by decide) (by decide) rfl rfl tyX9_ok nmX9 fl170_X9_not rfl rfl rfl rfl rfl dX9_not_31 ?_
      obtain ⟨s23, e24, h⟩ := ld h
      refine V.eq e24 ?_
      refine v_iload_n hC dX9_not_34 1 rfl ?_
      refine v_if_ne (tgt := 42) hC dX9_not_35 (by decide) (fun c_25 => ?_) (fun c_25 => ?_)
      · replace h := ifn c_25 h
        refine v_iconst (v := 0) hC dX9_not_42 (by decide) ?_
        exact v_iret hC rfl dX9_not_43 h
      · replace h := ift c_25 h
        refine v_iconst (v := 1) hC dX9_not_38 (by decide) ?_
        refine v_goto (tgt := 43) hC dX9_not_39 (by decide) ?_
        exact v_iret hC rfl dX9_not_43 h
    · replace h := ift c_19 h
      refine v_iconst (v := 0) hC dX9_not_17 (by decide) ?_
      exact v_iret hC rfl dX9_not_18 h
theorem k_X9_not (l : Launch) {G : WD} {fr lo : Nat} {kE : HS → Option (Int32 × HS)} {kN : HS → Option (Int32 × HS)} {kO : HS → Option (Int32 × HS)} {r0 : Int32} {τ : HS}  {σ : HS} (hkE : ∀ {σ τ : HS} {r : Int32}, kE σ = some (r, τ) → MI mE l yX9_either wsX9_either { frames := fr + 15, cells := 0, slots := 0, locals := lo + 800 } G mY [.ref (G.2.2.1 0)] σ r τ) (hkN : ∀ {σ τ : HS} {r : Int32}, kN σ = some (r, τ) → MI mE l yX9_not wsX9_not { frames := fr + 13, cells := 0, slots := 0, locals := lo + 720 } G mY [.ref (G.2.2.1 0)] σ r τ) (hkO : ∀ {σ τ : HS} {r : Int32}, kO σ = some (r, τ) → MI mE l yX9_one wsX9_one { frames := fr + 10, cells := 0, slots := 0, locals := lo + 600 } G mY [.ref (G.2.2.1 0)] σ r τ) (hG : GX G mY) (hO0 : Ob G mY 0 8) (h : c_X9_not kE kN kO  σ = some (r0, τ)) : MI mE l yX9_not wsX9_not { frames := fr + 20 + 13, cells := 0, slots := 0, locals := lo + 900 + 720 } G mY [.ref (G.2.2.1 0)] σ r0 τ :=
  MI.of RX9 (by decide) rfl rfl (Nat.le_of_ble_eq_true rfl) rfl rfl (fun p e s m below meth c hC => w_X9_not hkE hkN hkO hG hO0 hC h)
def c_X9_both_37 (kE : HS → Option (Int32 × HS)) (kN : HS → Option (Int32 × HS)) (kO : HS → Option (Int32 × HS)) (k5 : Int32 → HS → Option (Int32 × HS)) (y0 : Int32) (σ : HS) : Option (Int32 × HS) := (k5 y0 σ)
set_option maxHeartbeats 4000000 in
set_option maxRecDepth 100000 in
theorem w_X9_both_37 {p : Program} {l : Launch} {e : Env} {s : State} {m : MethodId} {args : Array Value} {below : List Frame} {meth : Method} {c : Code} {A : Nat → Prop} {G : WD} {fr lo : Nat} {kE : HS → Option (Int32 × HS)} {kN : HS → Option (Int32 × HS)} {kO : HS → Option (Int32 × HS)} {r0 : Int32} {τ : HS}  {k5 : Int32 → HS → Option (Int32 × HS)} {y0 : Int32} {σ : HS} (hkE : ∀ {σ τ : HS} {r : Int32}, kE σ = some (r, τ) → MI mE l yX9_either wsX9_either { frames := fr + 15, cells := 0, slots := 0, locals := lo + 800 } G mY [.ref (G.2.2.1 0)] σ r τ) (hkN : ∀ {σ τ : HS} {r : Int32}, kN σ = some (r, τ) → MI mE l yX9_not wsX9_not { frames := fr + 13, cells := 0, slots := 0, locals := lo + 720 } G mY [.ref (G.2.2.1 0)] σ r τ) (hkO : ∀ {σ τ : HS} {r : Int32}, kO σ = some (r, τ) → MI mE l yX9_one wsX9_one { frames := fr + 10, cells := 0, slots := 0, locals := lo + 600 } G mY [.ref (G.2.2.1 0)] σ r τ) (hG : GX G mY) (hO0 : Ob G mY 0 8) (hC : Cx mE G.1 G.2.1 mY cX9_both 3 (some .int) RX9 wsX9_both p s m args meth c A) (hk5 : ∀ (x1 : Int32) (σ : HS), k5 x1 σ = some (r0, τ) → V p l e { frames := fr + 20 + 14, cells := 0, slots := 0, locals := lo + 900 + 760 } s m args below meth c 3 A G mY 0 0 (MQ below (QI G mY A r0 τ) args s 0 0 A) σ 5 [(0, .ref (G.2.2.1 0)), (1, .int x1)] []) (h : c_X9_both_37 kE kN kO k5 y0 σ = some (r0, τ)) : V p l e { frames := fr + 20 + 14, cells := 0, slots := 0, locals := lo + 900 + 760 } s m args below meth c 3 A G mY 0 0 (MQ below (QI G mY A r0 τ) args s 0 0 A) σ 37 [(0, .ref (G.2.2.1 0))] [.int y0] := by
  rw [c_X9_both_37] at h
  refine v_istore_n (L' := [(0, .ref (G.2.2.1 0)), (1, .int y0)]) hC dX9_both_37 (by decide) [1, 0] rfl ?_
  refine v_goto (tgt := 5) hC dX9_both_38 (by decide) ?_
  exact hk5 _ _ h
def c_X9_both_36 (kE : HS → Option (Int32 × HS)) (kN : HS → Option (Int32 × HS)) (kO : HS → Option (Int32 × HS)) (k5 : Int32 → HS → Option (Int32 × HS)) (σ : HS) : Option (Int32 × HS) := (c_X9_both_37 kE kN kO k5 0 σ)
set_option maxHeartbeats 4000000 in
set_option maxRecDepth 100000 in
theorem w_X9_both_36 {p : Program} {l : Launch} {e : Env} {s : State} {m : MethodId} {args : Array Value} {below : List Frame} {meth : Method} {c : Code} {A : Nat → Prop} {G : WD} {fr lo : Nat} {kE : HS → Option (Int32 × HS)} {kN : HS → Option (Int32 × HS)} {kO : HS → Option (Int32 × HS)} {r0 : Int32} {τ : HS}  {k5 : Int32 → HS → Option (Int32 × HS)}  {σ : HS} (hkE : ∀ {σ τ : HS} {r : Int32}, kE σ = some (r, τ) → MI mE l yX9_either wsX9_either { frames := fr + 15, cells := 0, slots := 0, locals := lo + 800 } G mY [.ref (G.2.2.1 0)] σ r τ) (hkN : ∀ {σ τ : HS} {r : Int32}, kN σ = some (r, τ) → MI mE l yX9_not wsX9_not { frames := fr + 13, cells := 0, slots := 0, locals := lo + 720 } G mY [.ref (G.2.2.1 0)] σ r τ) (hkO : ∀ {σ τ : HS} {r : Int32}, kO σ = some (r, τ) → MI mE l yX9_one wsX9_one { frames := fr + 10, cells := 0, slots := 0, locals := lo + 600 } G mY [.ref (G.2.2.1 0)] σ r τ) (hG : GX G mY) (hO0 : Ob G mY 0 8) (hC : Cx mE G.1 G.2.1 mY cX9_both 3 (some .int) RX9 wsX9_both p s m args meth c A) (hk5 : ∀ (x1 : Int32) (σ : HS), k5 x1 σ = some (r0, τ) → V p l e { frames := fr + 20 + 14, cells := 0, slots := 0, locals := lo + 900 + 760 } s m args below meth c 3 A G mY 0 0 (MQ below (QI G mY A r0 τ) args s 0 0 A) σ 5 [(0, .ref (G.2.2.1 0)), (1, .int x1)] []) (h : c_X9_both_36 kE kN kO k5  σ = some (r0, τ)) : V p l e { frames := fr + 20 + 14, cells := 0, slots := 0, locals := lo + 900 + 760 } s m args below meth c 3 A G mY 0 0 (MQ below (QI G mY A r0 τ) args s 0 0 A) σ 36 [(0, .ref (G.2.2.1 0))] [] := by
  rw [c_X9_both_36] at h
  refine v_iconst (v := 0) hC dX9_both_36 (by decide) ?_
  exact w_X9_both_37 hkE hkN hkO hG (hO0) hC hk5 h
def c_X9_both_5 (kE : HS → Option (Int32 × HS)) (kN : HS → Option (Int32 × HS)) (kO : HS → Option (Int32 × HS)) : Nat → Int32 → HS → Option (Int32 × HS)
  | 0, _, _ => none
  | n + 1, x1, σ => (bi2 (c_X9_isWord 1111 σ) (fun r6 s5 => (if r6 = 0 then (some (x1, s5)) else (bi1 (c_X9_next1 s5) (fun s9 => (bi2 (c_X9_not kE kN kO s9) (fun r12 s11 => (if x1 = 0 then (c_X9_both_36 kE kN kO (fun z0 z1 => c_X9_both_5 kE kN kO n z0 z1) s11) else (if r12 = 0 then (c_X9_both_36 kE kN kO (fun z0 z1 => c_X9_both_5 kE kN kO n z0 z1) s11) else (c_X9_both_37 kE kN kO (fun z0 z1 => c_X9_both_5 kE kN kO n z0 z1) 1 s11))))))))))
set_option maxHeartbeats 4000000 in
set_option maxRecDepth 100000 in
theorem w_X9_both_5 {p : Program} {l : Launch} {e : Env} {s : State} {m : MethodId} {args : Array Value} {below : List Frame} {meth : Method} {c : Code} {A : Nat → Prop} {G : WD} {fr lo : Nat} {kE : HS → Option (Int32 × HS)} {kN : HS → Option (Int32 × HS)} {kO : HS → Option (Int32 × HS)} {r0 : Int32} {τ : HS}  (hkE : ∀ {σ τ : HS} {r : Int32}, kE σ = some (r, τ) → MI mE l yX9_either wsX9_either { frames := fr + 15, cells := 0, slots := 0, locals := lo + 800 } G mY [.ref (G.2.2.1 0)] σ r τ) (hkN : ∀ {σ τ : HS} {r : Int32}, kN σ = some (r, τ) → MI mE l yX9_not wsX9_not { frames := fr + 13, cells := 0, slots := 0, locals := lo + 720 } G mY [.ref (G.2.2.1 0)] σ r τ) (hkO : ∀ {σ τ : HS} {r : Int32}, kO σ = some (r, τ) → MI mE l yX9_one wsX9_one { frames := fr + 10, cells := 0, slots := 0, locals := lo + 600 } G mY [.ref (G.2.2.1 0)] σ r τ) (hG : GX G mY) (hO0 : Ob G mY 0 8) (hC : Cx mE G.1 G.2.1 mY cX9_both 3 (some .int) RX9 wsX9_both p s m args meth c A)  : ∀ (n : Nat) (x1 : Int32) (σ : HS), c_X9_both_5 kE kN kO n x1 σ = some (r0, τ) → V p l e { frames := fr + 20 + 14, cells := 0, slots := 0, locals := lo + 900 + 760 } s m args below meth c 3 A G mY 0 0 (MQ below (QI G mY A r0 τ) args s 0 0 A) σ 5 [(0, .ref (G.2.2.1 0)), (1, .int x1)] [] := by
  intro n
  induction n with
  | zero => intro x1 σ h; exact nof h
  | succ n ih =>
    intro x1 σ h
    rw [c_X9_both_5] at h
    refine v_aload_n hC dX9_both_5 0 rfl ?_
    refine v_ldc2 (v := 1111) hC lc233_X9_both dX9_both_6 ?_
    obtain ⟨r6, s5, hc_4, h⟩ := bd2 h
    refine v_callVI hC mE_ok (n := 1) (As := [.long 1111]) (k_X9_isWord l hG (hO0) hc_4) (cwV 1 hC.1.2.2.2.2 gX9_both_X9_isWord rfl rfl rfl (by decide +kernel) ⟨(by first | omega | (dsimp only; omega) | (dsimp only [rmX9_isWord]; omega)), (by first | omega | (dsimp only; omega) | (dsimp only [rmX9_isWord]; omega))⟩) hO0 (by decide) rfl rfl rfl (Nat.le_of_ble_eq_true rfl) ⟨Nat.zero_le _, Nat.zero_le _⟩ dX9_both_9 rfl ?_
    refine v_if_eq (tgt := 41) hC dX9_both_12 (by decide) (fun c_7 => ?_) (fun c_7 => ?_)
    · replace h := ift c_7 h
      refine v_iload_n hC dX9_both_41 1 rfl ?_
      exact v_iret hC rfl dX9_both_42 h
    · replace h := ifn c_7 h
      refine v_aload_n hC dX9_both_15 0 rfl ?_
      obtain ⟨s9, hc_8, h⟩ := bd1 h
      refine v_callVV hC mE_ok (n := 0) (As := []) (k_X9_next1 l hG (hO0) hc_8) (cwV 0 hC.1.2.2.2.2 gX9_both_X9_next1 rfl rfl rfl (by decide +kernel) ⟨(by first | omega | (dsimp only; omega) | (dsimp only [rmX9_next1]; omega)), (by first | omega | (dsimp only; omega) | (dsimp only [rmX9_next1]; omega))⟩) hO0 (by decide) rfl rfl rfl (Nat.le_of_ble_eq_true rfl) ⟨Nat.zero_le _, Nat.zero_le _⟩ dX9_both_16 rfl ?_
      refine v_aload_n hC dX9_both_19 0 rfl ?_
      obtain ⟨r12, s11, hc_10, h⟩ := bd2 h
      refine v_callVI hC mE_ok (n := 0) (As := []) (k_X9_not l hkE hkN hkO hG (hO0) hc_10) (cwV 0 hC.1.2.2.2.2 gX9_both_X9_not rfl rfl rfl (by decide +kernel) ⟨(by first | omega | (dsimp only; omega)), (by first | omega | (dsimp only; omega))⟩) hO0 (by decide) rfl rfl rfl (Nat.le_of_ble_eq_true rfl) ⟨Nat.zero_le _, Nat.zero_le _⟩ dX9_both_20 rfl ?_
      refine v_istore_n (L' := [(0, .ref (G.2.2.1 0)), (1, .int x1), (2, .int r12)]) hC dX9_both_23 (by decide) [1, 2, 0] rfl ?_
      refine v_iload_n hC dX9_both_24 1 rfl ?_
      refine v_if_eq (tgt := 36) hC dX9_both_25 (by decide) (fun c_13 => ?_) (fun c_13 => ?_)
      · replace h := ift c_13 h
        refine V.sub (L' := [(0, .ref (G.2.2.1 0))]) [0] rfl ?_
        exact w_X9_both_36 hkE hkN hkO hG (hO0) hC (fun _ _ h => ih _ _ h) h
      · replace h := ifn c_13 h
        refine v_iload_n hC dX9_both_28 2 rfl ?_
        refine v_if_eq (tgt := 36) hC dX9_both_29 (by decide) (fun c_14 => ?_) (fun c_14 => ?_)
        · replace h := ift c_14 h
          refine V.sub (L' := [(0, .ref (G.2.2.1 0))]) [0] rfl ?_
          exact w_X9_both_36 hkE hkN hkO hG (hO0) hC (fun _ _ h => ih _ _ h) h
        · replace h := ifn c_14 h
          refine v_iconst (v := 1) hC dX9_both_32 (by decide) ?_
          refine v_goto (tgt := 37) hC dX9_both_33 (by decide) ?_
          refine V.sub (L' := [(0, .ref (G.2.2.1 0))]) [0] rfl ?_
          exact w_X9_both_37 hkE hkN hkO hG (hO0) hC (fun _ _ h => ih _ _ h) h
def c_X9_both (kE : HS → Option (Int32 × HS)) (kN : HS → Option (Int32 × HS)) (kO : HS → Option (Int32 × HS)) (σ : HS) : Option (Int32 × HS) := (bi2 (c_X9_not kE kN kO σ) (fun r3 s2 => (c_X9_both_5 kE kN kO FU r3 s2)))
set_option maxHeartbeats 4000000 in
set_option maxRecDepth 100000 in
theorem w_X9_both {p : Program} {l : Launch} {e : Env} {s : State} {m : MethodId} {args : Array Value} {below : List Frame} {meth : Method} {c : Code} {A : Nat → Prop} {G : WD} {fr lo : Nat} {kE : HS → Option (Int32 × HS)} {kN : HS → Option (Int32 × HS)} {kO : HS → Option (Int32 × HS)} {r0 : Int32} {τ : HS}  {σ : HS} (hkE : ∀ {σ τ : HS} {r : Int32}, kE σ = some (r, τ) → MI mE l yX9_either wsX9_either { frames := fr + 15, cells := 0, slots := 0, locals := lo + 800 } G mY [.ref (G.2.2.1 0)] σ r τ) (hkN : ∀ {σ τ : HS} {r : Int32}, kN σ = some (r, τ) → MI mE l yX9_not wsX9_not { frames := fr + 13, cells := 0, slots := 0, locals := lo + 720 } G mY [.ref (G.2.2.1 0)] σ r τ) (hkO : ∀ {σ τ : HS} {r : Int32}, kO σ = some (r, τ) → MI mE l yX9_one wsX9_one { frames := fr + 10, cells := 0, slots := 0, locals := lo + 600 } G mY [.ref (G.2.2.1 0)] σ r τ) (hG : GX G mY) (hO0 : Ob G mY 0 8) (hC : Cx mE G.1 G.2.1 mY cX9_both 3 (some .int) RX9 wsX9_both p s m args meth c A) (h : c_X9_both kE kN kO  σ = some (r0, τ)) : V p l e { frames := fr + 20 + 14, cells := 0, slots := 0, locals := lo + 900 + 760 } s m args below meth c 3 A G mY 0 0 (MQ below (QI G mY A r0 τ) args s 0 0 A) σ 0 [(0, .ref (G.2.2.1 0))] [] := by
  rw [c_X9_both] at h
  refine v_aload_n hC dX9_both_0 0 rfl ?_
  obtain ⟨r3, s2, hc_1, h⟩ := bd2 h
  refine v_callVI hC mE_ok (n := 0) (As := []) (k_X9_not l hkE hkN hkO hG (hO0) hc_1) (cwV 0 hC.1.2.2.2.2 gX9_both_X9_not rfl rfl rfl (by decide +kernel) ⟨(by first | omega | (dsimp only; omega)), (by first | omega | (dsimp only; omega))⟩) hO0 (by decide) rfl rfl rfl (Nat.le_of_ble_eq_true rfl) ⟨Nat.zero_le _, Nat.zero_le _⟩ dX9_both_1 rfl ?_
  refine v_istore_n (L' := [(0, .ref (G.2.2.1 0)), (1, .int r3)]) hC dX9_both_4 (by decide) [1, 0] rfl ?_
  exact w_X9_both_5 hkE hkN hkO hG (hO0) hC FU _ _ h
theorem k_X9_both (l : Launch) {G : WD} {fr lo : Nat} {kE : HS → Option (Int32 × HS)} {kN : HS → Option (Int32 × HS)} {kO : HS → Option (Int32 × HS)} {r0 : Int32} {τ : HS}  {σ : HS} (hkE : ∀ {σ τ : HS} {r : Int32}, kE σ = some (r, τ) → MI mE l yX9_either wsX9_either { frames := fr + 15, cells := 0, slots := 0, locals := lo + 800 } G mY [.ref (G.2.2.1 0)] σ r τ) (hkN : ∀ {σ τ : HS} {r : Int32}, kN σ = some (r, τ) → MI mE l yX9_not wsX9_not { frames := fr + 13, cells := 0, slots := 0, locals := lo + 720 } G mY [.ref (G.2.2.1 0)] σ r τ) (hkO : ∀ {σ τ : HS} {r : Int32}, kO σ = some (r, τ) → MI mE l yX9_one wsX9_one { frames := fr + 10, cells := 0, slots := 0, locals := lo + 600 } G mY [.ref (G.2.2.1 0)] σ r τ) (hG : GX G mY) (hO0 : Ob G mY 0 8) (h : c_X9_both kE kN kO  σ = some (r0, τ)) : MI mE l yX9_both wsX9_both { frames := fr + 20 + 14, cells := 0, slots := 0, locals := lo + 900 + 760 } G mY [.ref (G.2.2.1 0)] σ r0 τ :=
  MI.of RX9 (by decide) rfl rfl (Nat.le_of_ble_eq_true rfl) rfl rfl (fun p e s m below meth c hC => w_X9_both hkE hkN hkO hG hO0 hC h)
def c_X9_either_37 (kE : HS → Option (Int32 × HS)) (kN : HS → Option (Int32 × HS)) (kO : HS → Option (Int32 × HS)) (k5 : Int32 → HS → Option (Int32 × HS)) (y0 : Int32) (σ : HS) : Option (Int32 × HS) := (k5 y0 σ)
set_option maxHeartbeats 4000000 in
set_option maxRecDepth 100000 in
theorem w_X9_either_37 {p : Program} {l : Launch} {e : Env} {s : State} {m : MethodId} {args : Array Value} {below : List Frame} {meth : Method} {c : Code} {A : Nat → Prop} {G : WD} {fr lo : Nat} {kE : HS → Option (Int32 × HS)} {kN : HS → Option (Int32 × HS)} {kO : HS → Option (Int32 × HS)} {r0 : Int32} {τ : HS}  {k5 : Int32 → HS → Option (Int32 × HS)} {y0 : Int32} {σ : HS} (hkE : ∀ {σ τ : HS} {r : Int32}, kE σ = some (r, τ) → MI mE l yX9_either wsX9_either { frames := fr + 15, cells := 0, slots := 0, locals := lo + 800 } G mY [.ref (G.2.2.1 0)] σ r τ) (hkN : ∀ {σ τ : HS} {r : Int32}, kN σ = some (r, τ) → MI mE l yX9_not wsX9_not { frames := fr + 13, cells := 0, slots := 0, locals := lo + 720 } G mY [.ref (G.2.2.1 0)] σ r τ) (hkO : ∀ {σ τ : HS} {r : Int32}, kO σ = some (r, τ) → MI mE l yX9_one wsX9_one { frames := fr + 10, cells := 0, slots := 0, locals := lo + 600 } G mY [.ref (G.2.2.1 0)] σ r τ) (hG : GX G mY) (hO0 : Ob G mY 0 8) (hC : Cx mE G.1 G.2.1 mY cX9_either 3 (some .int) RX9 wsX9_either p s m args meth c A) (hk5 : ∀ (x1 : Int32) (σ : HS), k5 x1 σ = some (r0, τ) → V p l e { frames := fr + 20 + 15, cells := 0, slots := 0, locals := lo + 900 + 800 } s m args below meth c 3 A G mY 0 0 (MQ below (QI G mY A r0 τ) args s 0 0 A) σ 5 [(0, .ref (G.2.2.1 0)), (1, .int x1)] []) (h : c_X9_either_37 kE kN kO k5 y0 σ = some (r0, τ)) : V p l e { frames := fr + 20 + 15, cells := 0, slots := 0, locals := lo + 900 + 800 } s m args below meth c 3 A G mY 0 0 (MQ below (QI G mY A r0 τ) args s 0 0 A) σ 37 [(0, .ref (G.2.2.1 0))] [.int y0] := by
  rw [c_X9_either_37] at h
  refine v_istore_n (L' := [(0, .ref (G.2.2.1 0)), (1, .int y0)]) hC dX9_either_37 (by decide) [1, 0] rfl ?_
  refine v_goto (tgt := 5) hC dX9_either_38 (by decide) ?_
  exact hk5 _ _ h
def c_X9_either_32 (kE : HS → Option (Int32 × HS)) (kN : HS → Option (Int32 × HS)) (kO : HS → Option (Int32 × HS)) (k5 : Int32 → HS → Option (Int32 × HS)) (σ : HS) : Option (Int32 × HS) := (c_X9_either_37 kE kN kO k5 1 σ)
set_option maxHeartbeats 4000000 in
set_option maxRecDepth 100000 in
theorem w_X9_either_32 {p : Program} {l : Launch} {e : Env} {s : State} {m : MethodId} {args : Array Value} {below : List Frame} {meth : Method} {c : Code} {A : Nat → Prop} {G : WD} {fr lo : Nat} {kE : HS → Option (Int32 × HS)} {kN : HS → Option (Int32 × HS)} {kO : HS → Option (Int32 × HS)} {r0 : Int32} {τ : HS}  {k5 : Int32 → HS → Option (Int32 × HS)}  {σ : HS} (hkE : ∀ {σ τ : HS} {r : Int32}, kE σ = some (r, τ) → MI mE l yX9_either wsX9_either { frames := fr + 15, cells := 0, slots := 0, locals := lo + 800 } G mY [.ref (G.2.2.1 0)] σ r τ) (hkN : ∀ {σ τ : HS} {r : Int32}, kN σ = some (r, τ) → MI mE l yX9_not wsX9_not { frames := fr + 13, cells := 0, slots := 0, locals := lo + 720 } G mY [.ref (G.2.2.1 0)] σ r τ) (hkO : ∀ {σ τ : HS} {r : Int32}, kO σ = some (r, τ) → MI mE l yX9_one wsX9_one { frames := fr + 10, cells := 0, slots := 0, locals := lo + 600 } G mY [.ref (G.2.2.1 0)] σ r τ) (hG : GX G mY) (hO0 : Ob G mY 0 8) (hC : Cx mE G.1 G.2.1 mY cX9_either 3 (some .int) RX9 wsX9_either p s m args meth c A) (hk5 : ∀ (x1 : Int32) (σ : HS), k5 x1 σ = some (r0, τ) → V p l e { frames := fr + 20 + 15, cells := 0, slots := 0, locals := lo + 900 + 800 } s m args below meth c 3 A G mY 0 0 (MQ below (QI G mY A r0 τ) args s 0 0 A) σ 5 [(0, .ref (G.2.2.1 0)), (1, .int x1)] []) (h : c_X9_either_32 kE kN kO k5  σ = some (r0, τ)) : V p l e { frames := fr + 20 + 15, cells := 0, slots := 0, locals := lo + 900 + 800 } s m args below meth c 3 A G mY 0 0 (MQ below (QI G mY A r0 τ) args s 0 0 A) σ 32 [(0, .ref (G.2.2.1 0))] [] := by
  rw [c_X9_either_32] at h
  refine v_iconst (v := 1) hC dX9_either_32 (by decide) ?_
  refine v_goto (tgt := 37) hC dX9_either_33 (by decide) ?_
  exact w_X9_either_37 hkE hkN hkO hG (hO0) hC hk5 h
def c_X9_either_5 (kE : HS → Option (Int32 × HS)) (kN : HS → Option (Int32 × HS)) (kO : HS → Option (Int32 × HS)) : Nat → Int32 → HS → Option (Int32 × HS)
  | 0, _, _ => none
  | n + 1, x1, σ => (bi2 (c_X9_isWord 423 σ) (fun r6 s5 => (if r6 = 0 then (some (x1, s5)) else (bi1 (c_X9_next1 s5) (fun s9 => (bi2 (c_X9_both kE kN kO s9) (fun r12 s11 => (if x1 = 0 then (if r12 = 0 then (c_X9_either_37 kE kN kO (fun z0 z1 => c_X9_either_5 kE kN kO n z0 z1) 0 s11) else (c_X9_either_32 kE kN kO (fun z0 z1 => c_X9_either_5 kE kN kO n z0 z1) s11)) else (c_X9_either_32 kE kN kO (fun z0 z1 => c_X9_either_5 kE kN kO n z0 z1) s11)))))))))
set_option maxHeartbeats 4000000 in
set_option maxRecDepth 100000 in
theorem w_X9_either_5 {p : Program} {l : Launch} {e : Env} {s : State} {m : MethodId} {args : Array Value} {below : List Frame} {meth : Method} {c : Code} {A : Nat → Prop} {G : WD} {fr lo : Nat} {kE : HS → Option (Int32 × HS)} {kN : HS → Option (Int32 × HS)} {kO : HS → Option (Int32 × HS)} {r0 : Int32} {τ : HS}  (hkE : ∀ {σ τ : HS} {r : Int32}, kE σ = some (r, τ) → MI mE l yX9_either wsX9_either { frames := fr + 15, cells := 0, slots := 0, locals := lo + 800 } G mY [.ref (G.2.2.1 0)] σ r τ) (hkN : ∀ {σ τ : HS} {r : Int32}, kN σ = some (r, τ) → MI mE l yX9_not wsX9_not { frames := fr + 13, cells := 0, slots := 0, locals := lo + 720 } G mY [.ref (G.2.2.1 0)] σ r τ) (hkO : ∀ {σ τ : HS} {r : Int32}, kO σ = some (r, τ) → MI mE l yX9_one wsX9_one { frames := fr + 10, cells := 0, slots := 0, locals := lo + 600 } G mY [.ref (G.2.2.1 0)] σ r τ) (hG : GX G mY) (hO0 : Ob G mY 0 8) (hC : Cx mE G.1 G.2.1 mY cX9_either 3 (some .int) RX9 wsX9_either p s m args meth c A)  : ∀ (n : Nat) (x1 : Int32) (σ : HS), c_X9_either_5 kE kN kO n x1 σ = some (r0, τ) → V p l e { frames := fr + 20 + 15, cells := 0, slots := 0, locals := lo + 900 + 800 } s m args below meth c 3 A G mY 0 0 (MQ below (QI G mY A r0 τ) args s 0 0 A) σ 5 [(0, .ref (G.2.2.1 0)), (1, .int x1)] [] := by
  intro n
  induction n with
  | zero => intro x1 σ h; exact nof h
  | succ n ih =>
    intro x1 σ h
    rw [c_X9_either_5] at h
    refine v_aload_n hC dX9_either_5 0 rfl ?_
    refine v_ldc2 (v := 423) hC lc238_X9_either dX9_either_6 ?_
    obtain ⟨r6, s5, hc_4, h⟩ := bd2 h
    refine v_callVI hC mE_ok (n := 1) (As := [.long 423]) (k_X9_isWord l hG (hO0) hc_4) (cwV 1 hC.1.2.2.2.2 gX9_either_X9_isWord rfl rfl rfl (by decide +kernel) ⟨(by first | omega | (dsimp only; omega) | (dsimp only [rmX9_isWord]; omega)), (by first | omega | (dsimp only; omega) | (dsimp only [rmX9_isWord]; omega))⟩) hO0 (by decide) rfl rfl rfl (Nat.le_of_ble_eq_true rfl) ⟨Nat.zero_le _, Nat.zero_le _⟩ dX9_either_9 rfl ?_
    refine v_if_eq (tgt := 41) hC dX9_either_12 (by decide) (fun c_7 => ?_) (fun c_7 => ?_)
    · replace h := ift c_7 h
      refine v_iload_n hC dX9_either_41 1 rfl ?_
      exact v_iret hC rfl dX9_either_42 h
    · replace h := ifn c_7 h
      refine v_aload_n hC dX9_either_15 0 rfl ?_
      obtain ⟨s9, hc_8, h⟩ := bd1 h
      refine v_callVV hC mE_ok (n := 0) (As := []) (k_X9_next1 l hG (hO0) hc_8) (cwV 0 hC.1.2.2.2.2 gX9_either_X9_next1 rfl rfl rfl (by decide +kernel) ⟨(by first | omega | (dsimp only; omega) | (dsimp only [rmX9_next1]; omega)), (by first | omega | (dsimp only; omega) | (dsimp only [rmX9_next1]; omega))⟩) hO0 (by decide) rfl rfl rfl (Nat.le_of_ble_eq_true rfl) ⟨Nat.zero_le _, Nat.zero_le _⟩ dX9_either_16 rfl ?_
      refine v_aload_n hC dX9_either_19 0 rfl ?_
      obtain ⟨r12, s11, hc_10, h⟩ := bd2 h
      refine v_callVI hC mE_ok (n := 0) (As := []) (k_X9_both l hkE hkN hkO hG (hO0) hc_10) (cwV 0 hC.1.2.2.2.2 gX9_either_X9_both rfl rfl rfl (by decide +kernel) ⟨(by first | omega | (dsimp only; omega)), (by first | omega | (dsimp only; omega))⟩) hO0 (by decide) rfl rfl rfl (Nat.le_of_ble_eq_true rfl) ⟨Nat.zero_le _, Nat.zero_le _⟩ dX9_either_20 rfl ?_
      refine v_istore_n (L' := [(0, .ref (G.2.2.1 0)), (1, .int x1), (2, .int r12)]) hC dX9_either_23 (by decide) [1, 2, 0] rfl ?_
      refine v_iload_n hC dX9_either_24 1 rfl ?_
      refine v_if_ne (tgt := 32) hC dX9_either_25 (by decide) (fun c_13 => ?_) (fun c_13 => ?_)
      · replace h := ifn c_13 h
        refine V.sub (L' := [(0, .ref (G.2.2.1 0))]) [0] rfl ?_
        exact w_X9_either_32 hkE hkN hkO hG (hO0) hC (fun _ _ h => ih _ _ h) h
      · replace h := ift c_13 h
        refine v_iload_n hC dX9_either_28 2 rfl ?_
        refine v_if_eq (tgt := 36) hC dX9_either_29 (by decide) (fun c_14 => ?_) (fun c_14 => ?_)
        · replace h := ift c_14 h
          refine v_iconst (v := 0) hC dX9_either_36 (by decide) ?_
          refine V.sub (L' := [(0, .ref (G.2.2.1 0))]) [0] rfl ?_
          exact w_X9_either_37 hkE hkN hkO hG (hO0) hC (fun _ _ h => ih _ _ h) h
        · replace h := ifn c_14 h
          refine V.sub (L' := [(0, .ref (G.2.2.1 0))]) [0] rfl ?_
          exact w_X9_either_32 hkE hkN hkO hG (hO0) hC (fun _ _ h => ih _ _ h) h
def c_X9_either (kE : HS → Option (Int32 × HS)) (kN : HS → Option (Int32 × HS)) (kO : HS → Option (Int32 × HS)) (σ : HS) : Option (Int32 × HS) := (bi2 (c_X9_both kE kN kO σ) (fun r3 s2 => (c_X9_either_5 kE kN kO FU r3 s2)))
set_option maxHeartbeats 4000000 in
set_option maxRecDepth 100000 in
theorem w_X9_either {p : Program} {l : Launch} {e : Env} {s : State} {m : MethodId} {args : Array Value} {below : List Frame} {meth : Method} {c : Code} {A : Nat → Prop} {G : WD} {fr lo : Nat} {kE : HS → Option (Int32 × HS)} {kN : HS → Option (Int32 × HS)} {kO : HS → Option (Int32 × HS)} {r0 : Int32} {τ : HS}  {σ : HS} (hkE : ∀ {σ τ : HS} {r : Int32}, kE σ = some (r, τ) → MI mE l yX9_either wsX9_either { frames := fr + 15, cells := 0, slots := 0, locals := lo + 800 } G mY [.ref (G.2.2.1 0)] σ r τ) (hkN : ∀ {σ τ : HS} {r : Int32}, kN σ = some (r, τ) → MI mE l yX9_not wsX9_not { frames := fr + 13, cells := 0, slots := 0, locals := lo + 720 } G mY [.ref (G.2.2.1 0)] σ r τ) (hkO : ∀ {σ τ : HS} {r : Int32}, kO σ = some (r, τ) → MI mE l yX9_one wsX9_one { frames := fr + 10, cells := 0, slots := 0, locals := lo + 600 } G mY [.ref (G.2.2.1 0)] σ r τ) (hG : GX G mY) (hO0 : Ob G mY 0 8) (hC : Cx mE G.1 G.2.1 mY cX9_either 3 (some .int) RX9 wsX9_either p s m args meth c A) (h : c_X9_either kE kN kO  σ = some (r0, τ)) : V p l e { frames := fr + 20 + 15, cells := 0, slots := 0, locals := lo + 900 + 800 } s m args below meth c 3 A G mY 0 0 (MQ below (QI G mY A r0 τ) args s 0 0 A) σ 0 [(0, .ref (G.2.2.1 0))] [] := by
  rw [c_X9_either] at h
  refine v_aload_n hC dX9_either_0 0 rfl ?_
  obtain ⟨r3, s2, hc_1, h⟩ := bd2 h
  refine v_callVI hC mE_ok (n := 0) (As := []) (k_X9_both l hkE hkN hkO hG (hO0) hc_1) (cwV 0 hC.1.2.2.2.2 gX9_either_X9_both rfl rfl rfl (by decide +kernel) ⟨(by first | omega | (dsimp only; omega)), (by first | omega | (dsimp only; omega))⟩) hO0 (by decide) rfl rfl rfl (Nat.le_of_ble_eq_true rfl) ⟨Nat.zero_le _, Nat.zero_le _⟩ dX9_either_1 rfl ?_
  refine v_istore_n (L' := [(0, .ref (G.2.2.1 0)), (1, .int r3)]) hC dX9_either_4 (by decide) [1, 0] rfl ?_
  exact w_X9_either_5 hkE hkN hkO hG (hO0) hC FU _ _ h
theorem k_X9_either (l : Launch) {G : WD} {fr lo : Nat} {kE : HS → Option (Int32 × HS)} {kN : HS → Option (Int32 × HS)} {kO : HS → Option (Int32 × HS)} {r0 : Int32} {τ : HS}  {σ : HS} (hkE : ∀ {σ τ : HS} {r : Int32}, kE σ = some (r, τ) → MI mE l yX9_either wsX9_either { frames := fr + 15, cells := 0, slots := 0, locals := lo + 800 } G mY [.ref (G.2.2.1 0)] σ r τ) (hkN : ∀ {σ τ : HS} {r : Int32}, kN σ = some (r, τ) → MI mE l yX9_not wsX9_not { frames := fr + 13, cells := 0, slots := 0, locals := lo + 720 } G mY [.ref (G.2.2.1 0)] σ r τ) (hkO : ∀ {σ τ : HS} {r : Int32}, kO σ = some (r, τ) → MI mE l yX9_one wsX9_one { frames := fr + 10, cells := 0, slots := 0, locals := lo + 600 } G mY [.ref (G.2.2.1 0)] σ r τ) (hG : GX G mY) (hO0 : Ob G mY 0 8) (h : c_X9_either kE kN kO  σ = some (r0, τ)) : MI mE l yX9_either wsX9_either { frames := fr + 20 + 15, cells := 0, slots := 0, locals := lo + 900 + 800 } G mY [.ref (G.2.2.1 0)] σ r0 τ :=
  MI.of RX9 (by decide) rfl rfl (Nat.le_of_ble_eq_true rfl) rfl rfl (fun p e s m below meth c hC => w_X9_either hkE hkN hkO hG hO0 hC h)
abbrev rmX9_either : Room := { frames := 155, cells := 0, slots := 0, locals := 7100 }
/-- the reference's recursive methods, so many levels deep: either, not, one -/
def rdM : Nat → (HS → Option (Int32 × HS)) × (HS → Option (Int32 × HS)) × (HS → Option (Int32 × HS))
  | 0 => (fun _ => none, fun _ => none, fun _ => none)
  | d + 1 => (c_X9_either (rdM d).1 (rdM d).2.1 (rdM d).2.2, c_X9_not (rdM d).1 (rdM d).2.1 (rdM d).2.2, c_X9_one (rdM d).1 (rdM d).2.1 (rdM d).2.2)
def c_rmE (σ : HS) : Option (Int32 × HS) := (rdM 7).1 σ
theorem k_rdM (l : Launch) {G : WD} (hG : GX G mY) (hO0 : Ob G mY 0 8) : ∀ d : Nat,
    (∀ {σ τ : HS} {r : Int32}, (rdM d).1 σ = some (r, τ) → MI mE l yX9_either wsX9_either { frames := 20 * d + 15, cells := 0, slots := 0, locals := 900 * d + 800 } G mY [.ref (G.2.2.1 0)] σ r τ) ∧
    (∀ {σ τ : HS} {r : Int32}, (rdM d).2.1 σ = some (r, τ) → MI mE l yX9_not wsX9_not { frames := 20 * d + 13, cells := 0, slots := 0, locals := 900 * d + 720 } G mY [.ref (G.2.2.1 0)] σ r τ) ∧
    (∀ {σ τ : HS} {r : Int32}, (rdM d).2.2 σ = some (r, τ) → MI mE l yX9_one wsX9_one { frames := 20 * d + 10, cells := 0, slots := 0, locals := 900 * d + 600 } G mY [.ref (G.2.2.1 0)] σ r τ) := by
  intro d
  induction d with
  | zero => exact ⟨fun h => nof h, fun h => nof h, fun h => nof h⟩
  | succ d ih =>
    obtain ⟨hE, hN, hO⟩ := ih
    exact ⟨fun h => k_X9_either l hE hN hO hG hO0 h, fun h => k_X9_not l hE hN hO hG hO0 h, fun h => k_X9_one l hE hN hO hG hO0 h⟩
theorem k_rmE (l : Launch) {G : WD} {σ τ : HS} {r0 : Int32} (hG : GX G mY) (hO0 : Ob G mY 0 8) (h : c_rmE σ = some (r0, τ)) : MI mE l yX9_either wsX9_either rmX9_either G mY [.ref (G.2.2.1 0)] σ r0 τ := (k_rdM l hG hO0 7).1 h

abbrev rmX9_part : Room := { frames := 156, cells := 0, slots := 0, locals := 7122 }
def c_X9_part_52 (x3 : Int32) (σ : HS) : Option (Int32 × HS) := (if (gI σ 0 20) = 0 then (bi1 (c_X9_next1 σ) (fun s22 => (some (x3, s22)))) else (some (x3, σ)))
set_option maxHeartbeats 4000000 in
set_option maxRecDepth 100000 in
theorem w_X9_part_52 {p : Program} {l : Launch} {e : Env} {s : State} {m : MethodId} {args : Array Value} {below : List Frame} {meth : Method} {c : Code} {A : Nat → Prop} {G : WD}  {r0 : Int32} {τ : HS}  {x3 : Int32} {σ : HS}  (hG : GX G mY) (hO0 : Ob G mY 0 8) (hC : Cx mE G.1 G.2.1 mY cX9_part 4 (some .int) RX9 wsX9_part p s m args meth c A)  (h : c_X9_part_52 x3 σ = some (r0, τ)) : V p l e rmX9_part s m args below meth c 4 A G mY 0 0 (MQ below (QI G mY A r0 τ) args s 0 0 A) σ 52 [(0, .ref (G.2.2.1 0)), (3, .int x3)] [] := by
  rw [c_X9_part_52] at h
  refine v_aload_n hC dX9_part_52 0 rfl ?_
  refine v_get (C := RX9) (T := TX9) (N := 45) (ci := 8) (k := 20) (v := .int (gI σ 0 20)) hC hO0 hi_X9_part_X9 rfl (by decide) (by decide) rfl rfl fl163_X9_part dX9_part_53 rfl ?_
  refine v_if_ne (tgt := 63) hC dX9_part_56 (by decide) (fun c_20 => ?_) (fun c_20 => ?_)
  · replace h := ifn c_20 h
    refine v_iload_n hC dX9_part_63 1 rfl ?_
    exact v_iret hC rfl dX9_part_64 h
  · replace h := ift c_20 h
    refine v_aload_n hC dX9_part_59 0 rfl ?_
    obtain ⟨s22, hc_21, h⟩ := bd1 h
    refine v_callVV hC mE_ok (n := 0) (As := []) (k_X9_next1 l hG (hO0) hc_21) (cwV 0 hC.1.2.2.2.2 gX9_part_X9_next1 rfl rfl rfl (by decide +kernel) ⟨(Nat.le_of_ble_eq_true rfl), (Nat.le_of_ble_eq_true rfl)⟩) hO0 (by decide) rfl rfl rfl (Nat.le_of_ble_eq_true rfl) ⟨Nat.zero_le _, Nat.zero_le _⟩ dX9_part_60 rfl ?_
    refine v_iload_n hC dX9_part_63 1 rfl ?_
    exact v_iret hC rfl dX9_part_64 h
def c_X9_part_38 (y0 : Int32) (σ : HS) : Option (Int32 × HS) := (bi2 (c_X9_isSign 59 σ) (fun r16 s15 => (if r16 = 0 then (bi1 (c_X9_fail s15) (fun s19 => (c_X9_part_52 y0 s19))) else (c_X9_part_52 y0 s15))))
set_option maxHeartbeats 4000000 in
set_option maxRecDepth 100000 in
theorem w_X9_part_38 {p : Program} {l : Launch} {e : Env} {s : State} {m : MethodId} {args : Array Value} {below : List Frame} {meth : Method} {c : Code} {A : Nat → Prop} {G : WD}  {r0 : Int32} {τ : HS}  {y0 : Int32} {σ : HS}  (hG : GX G mY) (hO0 : Ob G mY 0 8) (hC : Cx mE G.1 G.2.1 mY cX9_part 4 (some .int) RX9 wsX9_part p s m args meth c A)  (h : c_X9_part_38 y0 σ = some (r0, τ)) : V p l e rmX9_part s m args below meth c 4 A G mY 0 0 (MQ below (QI G mY A r0 τ) args s 0 0 A) σ 38 [(0, .ref (G.2.2.1 0))] [.int y0] := by
  rw [c_X9_part_38] at h
  refine v_istore_n (L' := [(0, .ref (G.2.2.1 0)), (3, .int y0)]) hC dX9_part_38 (by decide) [1, 0] rfl ?_
  refine v_aload_n hC dX9_part_39 0 rfl ?_
  refine v_bipush (v := 59) hC dX9_part_40 (by decide) ?_
  obtain ⟨r16, s15, hc_14, h⟩ := bd2 h
  refine v_callVI hC mE_ok (n := 1) (As := [.int 59]) (k_X9_isSign l hG (hO0) hc_14) (cwV 1 hC.1.2.2.2.2 gX9_part_X9_isSign rfl rfl rfl (by decide +kernel) ⟨(Nat.le_of_ble_eq_true rfl), (Nat.le_of_ble_eq_true rfl)⟩) hO0 (by decide) rfl rfl rfl (Nat.le_of_ble_eq_true rfl) ⟨Nat.zero_le _, Nat.zero_le _⟩ dX9_part_42 rfl ?_
  refine v_if_ne (tgt := 52) hC dX9_part_45 (by decide) (fun c_17 => ?_) (fun c_17 => ?_)
  · replace h := ifn c_17 h
    exact w_X9_part_52 hG (hO0) hC h
  · replace h := ift c_17 h
    refine v_aload_n hC dX9_part_48 0 rfl ?_
    obtain ⟨s19, hc_18, h⟩ := bd1 h
    refine v_callVV hC mE_ok (n := 0) (As := []) (k_X9_fail l hG (hO0) hc_18) (cwV 0 hC.1.2.2.2.2 gX9_part_X9_fail rfl rfl rfl (by decide +kernel) ⟨(Nat.le_of_ble_eq_true rfl), (Nat.le_of_ble_eq_true rfl)⟩) hO0 (by decide) rfl rfl rfl (Nat.le_of_ble_eq_true rfl) ⟨Nat.zero_le _, Nat.zero_le _⟩ dX9_part_49 rfl ?_
    exact w_X9_part_52 hG (hO0) hC h
def c_X9_part_23 (σ : HS) : Option (Int32 × HS) := (if (gI σ 0 20) = 0 then (bi2 (c_rmE σ) (fun r13 s12 => (c_X9_part_38 r13 s12))) else (c_X9_part_38 0 σ))
set_option maxHeartbeats 4000000 in
set_option maxRecDepth 100000 in
theorem w_X9_part_23 {p : Program} {l : Launch} {e : Env} {s : State} {m : MethodId} {args : Array Value} {below : List Frame} {meth : Method} {c : Code} {A : Nat → Prop} {G : WD}  {r0 : Int32} {τ : HS}   {σ : HS}  (hG : GX G mY) (hO0 : Ob G mY 0 8) (hC : Cx mE G.1 G.2.1 mY cX9_part 4 (some .int) RX9 wsX9_part p s m args meth c A)  (h : c_X9_part_23  σ = some (r0, τ)) : V p l e rmX9_part s m args below meth c 4 A G mY 0 0 (MQ below (QI G mY A r0 τ) args s 0 0 A) σ 23 [(0, .ref (G.2.2.1 0))] [] := by
  rw [c_X9_part_23] at h
  refine v_aload_n hC dX9_part_23 0 rfl ?_
  refine v_get (C := RX9) (T := TX9) (N := 45) (ci := 8) (k := 20) (v := .int (gI σ 0 20)) hC hO0 hi_X9_part_X9 rfl (by decide) (by decide) rfl rfl fl163_X9_part dX9_part_24 rfl ?_
  refine v_if_eq (tgt := 34) hC dX9_part_27 (by decide) (fun c_10 => ?_) (fun c_10 => ?_)
  · replace h := ift c_10 h
    refine v_aload_n hC dX9_part_34 0 rfl ?_
    obtain ⟨r13, s12, hc_11, h⟩ := bd2 h
    refine v_callVI hC mE_ok (n := 0) (As := []) (k_rmE l hG (hO0) hc_11) (cwV 0 hC.1.2.2.2.2 gX9_part_X9_either rfl rfl rfl (by decide +kernel) ⟨(Nat.le_of_ble_eq_true rfl), (Nat.le_of_ble_eq_true rfl)⟩) hO0 (by decide) rfl rfl rfl (Nat.le_of_ble_eq_true rfl) ⟨Nat.zero_le _, Nat.zero_le _⟩ dX9_part_35 rfl ?_
    exact w_X9_part_38 hG (hO0) hC h
  · replace h := ifn c_10 h
    refine v_iconst (v := 0) hC dX9_part_30 (by decide) ?_
    refine v_goto (tgt := 38) hC dX9_part_31 (by decide) ?_
    exact w_X9_part_38 hG (hO0) hC h
def c_X9_part_12 (σ : HS) : Option (Int32 × HS) := (if (gI σ 0 20) = 0 then (bi1 (c_X9_next1 σ) (fun s9 => (c_X9_part_23 s9))) else (c_X9_part_23 σ))
set_option maxHeartbeats 4000000 in
set_option maxRecDepth 100000 in
theorem w_X9_part_12 {p : Program} {l : Launch} {e : Env} {s : State} {m : MethodId} {args : Array Value} {below : List Frame} {meth : Method} {c : Code} {A : Nat → Prop} {G : WD}  {r0 : Int32} {τ : HS}   {σ : HS}  (hG : GX G mY) (hO0 : Ob G mY 0 8) (hC : Cx mE G.1 G.2.1 mY cX9_part 4 (some .int) RX9 wsX9_part p s m args meth c A)  (h : c_X9_part_12  σ = some (r0, τ)) : V p l e rmX9_part s m args below meth c 4 A G mY 0 0 (MQ below (QI G mY A r0 τ) args s 0 0 A) σ 12 [(0, .ref (G.2.2.1 0))] [] := by
  rw [c_X9_part_12] at h
  refine v_aload_n hC dX9_part_12 0 rfl ?_
  refine v_get (C := RX9) (T := TX9) (N := 45) (ci := 8) (k := 20) (v := .int (gI σ 0 20)) hC hO0 hi_X9_part_X9 rfl (by decide) (by decide) rfl rfl fl163_X9_part dX9_part_13 rfl ?_
  refine v_if_ne (tgt := 23) hC dX9_part_16 (by decide) (fun c_7 => ?_) (fun c_7 => ?_)
  · replace h := ifn c_7 h
    exact w_X9_part_23 hG (hO0) hC h
  · replace h := ift c_7 h
    refine v_aload_n hC dX9_part_19 0 rfl ?_
    obtain ⟨s9, hc_8, h⟩ := bd1 h
    refine v_callVV hC mE_ok (n := 0) (As := []) (k_X9_next1 l hG (hO0) hc_8) (cwV 0 hC.1.2.2.2.2 gX9_part_X9_next1 rfl rfl rfl (by decide +kernel) ⟨(Nat.le_of_ble_eq_true rfl), (Nat.le_of_ble_eq_true rfl)⟩) hO0 (by decide) rfl rfl rfl (Nat.le_of_ble_eq_true rfl) ⟨Nat.zero_le _, Nat.zero_le _⟩ dX9_part_20 rfl ?_
    exact w_X9_part_23 hG (hO0) hC h
def c_X9_part (p1 : Int64) (σ : HS) : Option (Int32 × HS) := (bi2 (c_X9_isWord p1 σ) (fun r3 s2 => (if r3 = 0 then (bi1 (c_X9_fail s2) (fun s6 => (c_X9_part_12 s6))) else (c_X9_part_12 s2))))
set_option maxHeartbeats 4000000 in
set_option maxRecDepth 100000 in
theorem w_X9_part {p : Program} {l : Launch} {e : Env} {s : State} {m : MethodId} {args : Array Value} {below : List Frame} {meth : Method} {c : Code} {A : Nat → Prop} {G : WD}  {r0 : Int32} {τ : HS} {p1 : Int64} {σ : HS}  (hG : GX G mY) (hO0 : Ob G mY 0 8) (hC : Cx mE G.1 G.2.1 mY cX9_part 4 (some .int) RX9 wsX9_part p s m args meth c A) (h : c_X9_part p1 σ = some (r0, τ)) : V p l e rmX9_part s m args below meth c 4 A G mY 0 0 (MQ below (QI G mY A r0 τ) args s 0 0 A) σ 0 [(0, .ref (G.2.2.1 0)), (1, .long p1)] [] := by
  rw [c_X9_part] at h
  refine v_aload_n hC dX9_part_0 0 rfl ?_
  refine v_lload_n hC dX9_part_1 1 rfl ?_
  obtain ⟨r3, s2, hc_1, h⟩ := bd2 h
  refine v_callVI hC mE_ok (n := 1) (As := [.long p1]) (k_X9_isWord l hG (hO0) hc_1) (cwV 1 hC.1.2.2.2.2 gX9_part_X9_isWord rfl rfl rfl (by decide +kernel) ⟨(Nat.le_of_ble_eq_true rfl), (Nat.le_of_ble_eq_true rfl)⟩) hO0 (by decide) rfl rfl rfl (Nat.le_of_ble_eq_true rfl) ⟨Nat.zero_le _, Nat.zero_le _⟩ dX9_part_2 rfl ?_
  refine v_if_ne (tgt := 12) hC dX9_part_5 (by decide) (fun c_4 => ?_) (fun c_4 => ?_)
  · replace h := ifn c_4 h
    refine V.sub (L' := [(0, .ref (G.2.2.1 0))]) [0] rfl ?_
    exact w_X9_part_12 hG (hO0) hC h
  · replace h := ift c_4 h
    refine v_aload_n hC dX9_part_8 0 rfl ?_
    obtain ⟨s6, hc_5, h⟩ := bd1 h
    refine v_callVV hC mE_ok (n := 0) (As := []) (k_X9_fail l hG (hO0) hc_5) (cwV 0 hC.1.2.2.2.2 gX9_part_X9_fail rfl rfl rfl (by decide +kernel) ⟨(Nat.le_of_ble_eq_true rfl), (Nat.le_of_ble_eq_true rfl)⟩) hO0 (by decide) rfl rfl rfl (Nat.le_of_ble_eq_true rfl) ⟨Nat.zero_le _, Nat.zero_le _⟩ dX9_part_9 rfl ?_
    refine V.sub (L' := [(0, .ref (G.2.2.1 0))]) [0] rfl ?_
    exact w_X9_part_12 hG (hO0) hC h
theorem k_X9_part (l : Launch) {G : WD}   {r0 : Int32} {τ : HS} {p1 : Int64} {σ : HS}  (hG : GX G mY) (hO0 : Ob G mY 0 8) (h : c_X9_part p1 σ = some (r0, τ)) : MI mE l yX9_part wsX9_part rmX9_part G mY [.ref (G.2.2.1 0), .long p1] σ r0 τ :=
  MI.of RX9 (by decide) rfl rfl (Nat.le_of_ble_eq_true rfl) rfl rfl (fun p e s m below meth c hC => w_X9_part  hG hO0 hC h)
abbrev rmX9_read : Room := { frames := 157, cells := 0, slots := 0, locals := 7145 }
def c_X9_read_115 (x4 : Int32) (x5 : Int32) (x6 : Int32) (x7 : Int32) (σ : HS) : Option (Int32 × HS) := (if x4 = 0 then (some (x5, σ)) else (if x4 = 1 then (some (x6, σ)) else (some (x7, σ))))
set_option maxHeartbeats 4000000 in
set_option maxRecDepth 100000 in
theorem w_X9_read_115 {p : Program} {l : Launch} {e : Env} {s : State} {m : MethodId} {args : Array Value} {below : List Frame} {meth : Method} {c : Code} {A : Nat → Prop} {G : WD}  {r0 : Int32} {τ : HS}  {x4 : Int32} {x5 : Int32} {x6 : Int32} {x7 : Int32} {σ : HS}  (hG : GX G mY)  (hC : Cx mE G.1 G.2.1 mY cX9_read 8 (some .int) RX9 wsX9_read p s m args meth c A)  (h : c_X9_read_115 x4 x5 x6 x7 σ = some (r0, τ)) : V p l e rmX9_read s m args below meth c 8 A G mY 0 0 (MQ below (QI G mY A r0 τ) args s 0 0 A) σ 115 [(4, .int x4), (5, .int x5), (6, .int x6), (7, .int x7)] [] := by
  rw [c_X9_read_115] at h
  refine v_iload hC dX9_read_115 0 rfl ?_
  refine v_if_ne (tgt := 125) hC dX9_read_117 (by decide) (fun c_33 => ?_) (fun c_33 => ?_)
  · replace h := ifn c_33 h
    refine v_iload hC dX9_read_125 0 rfl ?_
    refine v_iconst (v := 1) hC dX9_read_127 (by decide) ?_
    refine v_icmp_ne (tgt := 136) hC dX9_read_128 (by decide) (fun c_34 => ?_) (fun c_34 => ?_)
    · replace h := ifn c_34 h
      refine v_iload hC dX9_read_136 3 rfl ?_
      exact v_iret hC rfl dX9_read_138 h
    · replace h := ift c_34 h
      refine v_iload hC dX9_read_131 2 rfl ?_
      refine v_goto (tgt := 138) hC dX9_read_133 (by decide) ?_
      exact v_iret hC rfl dX9_read_138 h
  · replace h := ift c_33 h
    refine v_iload hC dX9_read_120 1 rfl ?_
    refine v_goto (tgt := 138) hC dX9_read_122 (by decide) ?_
    exact v_iret hC rfl dX9_read_138 h
def c_X9_read_95 (x4 : Int32) (x5 : Int32) (x6 : Int32) (y0 : Int32) (σ : HS) : Option (Int32 × HS) := (if (gI σ 0 20) = 0 then (if (gI σ 0 15) = 0 then (c_X9_read_115 x4 x5 x6 y0 σ) else (bi1 (c_X9_fail σ) (fun s32 => (c_X9_read_115 x4 x5 x6 y0 s32)))) else (c_X9_read_115 x4 x5 x6 y0 σ))
set_option maxHeartbeats 4000000 in
set_option maxRecDepth 100000 in
theorem w_X9_read_95 {p : Program} {l : Launch} {e : Env} {s : State} {m : MethodId} {args : Array Value} {below : List Frame} {meth : Method} {c : Code} {A : Nat → Prop} {G : WD}  {r0 : Int32} {τ : HS}  {x4 : Int32} {x5 : Int32} {x6 : Int32} {y0 : Int32} {σ : HS}  (hG : GX G mY) (hO0 : Ob G mY 0 8) (hC : Cx mE G.1 G.2.1 mY cX9_read 8 (some .int) RX9 wsX9_read p s m args meth c A)  (h : c_X9_read_95 x4 x5 x6 y0 σ = some (r0, τ)) : V p l e rmX9_read s m args below meth c 8 A G mY 0 0 (MQ below (QI G mY A r0 τ) args s 0 0 A) σ 95 [(0, .ref (G.2.2.1 0)), (4, .int x4), (5, .int x5), (6, .int x6)] [.int y0] := by
  rw [c_X9_read_95] at h
  refine v_istore (L' := [(0, .ref (G.2.2.1 0)), (4, .int x4), (5, .int x5), (6, .int x6), (7, .int y0)]) hC dX9_read_95 (by decide) [1, 2, 3, 4, 0] rfl ?_
  refine v_aload_n hC dX9_read_97 0 rfl ?_
  refine v_get (C := RX9) (T := TX9) (N := 45) (ci := 8) (k := 20) (v := .int (gI σ 0 20)) hC hO0 hi_X9_read_X9 rfl (by decide) (by decide) rfl rfl fl163_X9_read dX9_read_98 rfl ?_
  refine v_if_ne (tgt := 115) hC dX9_read_101 (by decide) (fun c_29 => ?_) (fun c_29 => ?_)
  · replace h := ifn c_29 h
    refine V.sub (L' := [(4, .int x4), (5, .int x5), (6, .int x6), (7, .int y0)]) [1, 2, 3, 4] rfl ?_
    exact w_X9_read_115 hG hC h
  · replace h := ift c_29 h
    refine v_aload_n hC dX9_read_104 0 rfl ?_
    refine v_get (C := RX9) (T := TX9) (N := 45) (ci := 8) (k := 15) (v := .int (gI σ 0 15)) hC hO0 hi_X9_read_X9 rfl (by decide) (by decide) rfl rfl fl142_X9_read dX9_read_105 rfl ?_
    refine v_if_eq (tgt := 115) hC dX9_read_108 (by decide) (fun c_30 => ?_) (fun c_30 => ?_)
    · replace h := ift c_30 h
      refine V.sub (L' := [(4, .int x4), (5, .int x5), (6, .int x6), (7, .int y0)]) [1, 2, 3, 4] rfl ?_
      exact w_X9_read_115 hG hC h
    · replace h := ifn c_30 h
      refine v_aload_n hC dX9_read_111 0 rfl ?_
      obtain ⟨s32, hc_31, h⟩ := bd1 h
      refine v_callVV hC mE_ok (n := 0) (As := []) (k_X9_fail l hG (hO0) hc_31) (cwV 0 hC.1.2.2.2.2 gX9_read_X9_fail rfl rfl rfl (by decide +kernel) ⟨(Nat.le_of_ble_eq_true rfl), (Nat.le_of_ble_eq_true rfl)⟩) hO0 (by decide) rfl rfl rfl (Nat.le_of_ble_eq_true rfl) ⟨Nat.zero_le _, Nat.zero_le _⟩ dX9_read_112 rfl ?_
      refine V.sub (L' := [(4, .int x4), (5, .int x5), (6, .int x6), (7, .int y0)]) [1, 2, 3, 4] rfl ?_
      exact w_X9_read_115 hG hC h
def c_X9_read_75 (x4 : Int32) (x5 : Int32) (y0 : Int32) (σ : HS) : Option (Int32 × HS) := (if (gI σ 0 20) = 0 then (bi2 (c_X9_part 1613 σ) (fun r28 s27 => (c_X9_read_95 x4 x5 y0 r28 s27))) else (c_X9_read_95 x4 x5 y0 0 σ))
set_option maxHeartbeats 4000000 in
set_option maxRecDepth 100000 in
theorem w_X9_read_75 {p : Program} {l : Launch} {e : Env} {s : State} {m : MethodId} {args : Array Value} {below : List Frame} {meth : Method} {c : Code} {A : Nat → Prop} {G : WD}  {r0 : Int32} {τ : HS}  {x4 : Int32} {x5 : Int32} {y0 : Int32} {σ : HS}  (hG : GX G mY) (hO0 : Ob G mY 0 8) (hC : Cx mE G.1 G.2.1 mY cX9_read 8 (some .int) RX9 wsX9_read p s m args meth c A)  (h : c_X9_read_75 x4 x5 y0 σ = some (r0, τ)) : V p l e rmX9_read s m args below meth c 8 A G mY 0 0 (MQ below (QI G mY A r0 τ) args s 0 0 A) σ 75 [(0, .ref (G.2.2.1 0)), (4, .int x4), (5, .int x5)] [.int y0] := by
  rw [c_X9_read_75] at h
  refine v_istore (L' := [(0, .ref (G.2.2.1 0)), (4, .int x4), (5, .int x5), (6, .int y0)]) hC dX9_read_75 (by decide) [1, 2, 3, 0] rfl ?_
  refine v_aload_n hC dX9_read_77 0 rfl ?_
  refine v_get (C := RX9) (T := TX9) (N := 45) (ci := 8) (k := 20) (v := .int (gI σ 0 20)) hC hO0 hi_X9_read_X9 rfl (by decide) (by decide) rfl rfl fl163_X9_read dX9_read_78 rfl ?_
  refine v_if_eq (tgt := 88) hC dX9_read_81 (by decide) (fun c_25 => ?_) (fun c_25 => ?_)
  · replace h := ift c_25 h
    refine v_aload_n hC dX9_read_88 0 rfl ?_
    refine v_ldc2 (v := 1613) hC lc248_X9_read dX9_read_89 ?_
    obtain ⟨r28, s27, hc_26, h⟩ := bd2 h
    refine v_callVI hC mE_ok (n := 1) (As := [.long 1613]) (k_X9_part l hG (hO0) hc_26) (cwV 1 hC.1.2.2.2.2 gX9_read_X9_part rfl rfl rfl (by decide +kernel) ⟨(Nat.le_of_ble_eq_true rfl), (Nat.le_of_ble_eq_true rfl)⟩) hO0 (by decide) rfl rfl rfl (Nat.le_of_ble_eq_true rfl) ⟨Nat.zero_le _, Nat.zero_le _⟩ dX9_read_92 rfl ?_
    exact w_X9_read_95 hG (hO0) hC h
  · replace h := ifn c_25 h
    refine v_iconst (v := 0) hC dX9_read_84 (by decide) ?_
    refine v_goto (tgt := 95) hC dX9_read_85 (by decide) ?_
    exact w_X9_read_95 hG (hO0) hC h
def c_X9_read (p1 : Int32) (p2 : Int32) (p3 : Int32) (p4 : Int32) (σ : HS) : Option (Int32 × HS) := (lt (sI σ 0 22 p2) (fun s1 => (lt (sI s1 0 23 p3) (fun s3 => (lt (sI s3 0 13 (160 * p1)) (fun s5 => (if inb p1 6 = true then (lt (sI s5 0 14 (gI s5 2 (ix p1))) (fun s8 => (lt (sI s8 0 18 0) (fun s10 => (lt (sI s10 0 19 0) (fun s12 => (lt (sI s12 0 20 0) (fun s14 => (bi1 (c_X9_next1 s14) (fun s17 => (bi2 (c_X9_part 168755 s17) (fun r20 s19 => (if (gI s19 0 20) = 0 then (bi2 (c_X9_part 385268 s19) (fun r24 s23 => (c_X9_read_75 p4 r20 r24 s23))) else (c_X9_read_75 p4 r20 0 s19)))))))))))))) else none)))))))
set_option maxHeartbeats 4000000 in
set_option maxRecDepth 100000 in
theorem w_X9_read {p : Program} {l : Launch} {e : Env} {s : State} {m : MethodId} {args : Array Value} {below : List Frame} {meth : Method} {c : Code} {A : Nat → Prop} {G : WD}  {r0 : Int32} {τ : HS} {p1 : Int32} {p2 : Int32} {p3 : Int32} {p4 : Int32} {σ : HS}  (hG : GX G mY) (hO0 : Ob G mY 0 8) (hC : Cx mE G.1 G.2.1 mY cX9_read 8 (some .int) RX9 wsX9_read p s m args meth c A) (h : c_X9_read p1 p2 p3 p4 σ = some (r0, τ)) : V p l e rmX9_read s m args below meth c 8 A G mY 0 0 (MQ below (QI G mY A r0 τ) args s 0 0 A) σ 0 [(0, .ref (G.2.2.1 0)), (1, .int p1), (2, .int p2), (3, .int p3), (4, .int p4)] [] := by
  rw [c_X9_read] at h
  refine v_aload_n hC dX9_read_0 0 rfl ?_
  refine v_iload_n hC dX9_read_1 2 rfl ?_
  refine v_putI (C := RX9) (T := TX9) (N := 45) (ci := 8) (k := 22) (ty := .int) hC hO0 hi_X9_read_X9 rfl (by decide) (by decide) rfl rfl tyX9_ok nmX9 fl185_X9_read rfl rfl rfl rfl rfl dX9_read_2 ?_
  obtain ⟨s1, e2, h⟩ := ld h
  refine V.eq e2 ?_
  refine v_aload_n hC dX9_read_5 0 rfl ?_
  refine v_iload_n hC dX9_read_6 3 rfl ?_
  refine v_putI (C := RX9) (T := TX9) (N := 45) (ci := 8) (k := 23) (ty := .int) hC hO0 hi_X9_read_X9 rfl (by decide) (by decide) rfl rfl tyX9_ok nmX9 fl192_X9_read rfl rfl rfl rfl rfl dX9_read_7 ?_
  obtain ⟨s3, e4, h⟩ := ld h
  refine V.eq e4 ?_
  refine v_aload_n hC dX9_read_10 0 rfl ?_
  refine v_sipush (v := 160) hC dX9_read_11 (by decide) ?_
  refine v_iload_n hC dX9_read_14 1 rfl ?_
  refine v_imul hC dX9_read_15 ?_
  refine v_putI (C := RX9) (T := TX9) (N := 45) (ci := 8) (k := 13) (ty := .int) hC hO0 hi_X9_read_X9 rfl (by decide) (by decide) rfl rfl tyX9_ok nmX9 fl130_X9_read rfl rfl rfl rfl rfl dX9_read_16 ?_
  obtain ⟨s5, e6, h⟩ := ld h
  refine V.eq e6 ?_
  refine v_aload_n hC dX9_read_19 0 rfl ?_
  refine v_aload_n hC dX9_read_20 0 rfl ?_
  refine v_get (C := RX9) (T := TX9) (N := 45) (ci := 8) (k := 2) (v := .ref (G.2.2.1 2)) hC hO0 hi_X9_read_X9 rfl (by decide) (by decide) rfl rfl fl17_X9_read dX9_read_21 rfl ?_
  refine v_iload_n hC dX9_read_24 1 rfl ?_
  obtain ⟨g_7, h⟩ := gd h
  refine v_iald hC (obM_8_2 hG hO0).1 (obM_8_2 hG hO0).2 (t0 := 0) rfl g_7 dX9_read_25 ?_
  refine v_putI (C := RX9) (T := TX9) (N := 45) (ci := 8) (k := 14) (ty := .int) hC hO0 hi_X9_read_X9 rfl (by decide) (by decide) rfl rfl tyX9_ok nmX9 fl127_X9_read rfl rfl rfl rfl rfl dX9_read_26 ?_
  obtain ⟨s8, e9, h⟩ := ld h
  refine V.eq e9 ?_
  refine v_aload_n hC dX9_read_29 0 rfl ?_
  refine v_iconst (v := 0) hC dX9_read_30 (by decide) ?_
  refine v_putI (C := RX9) (T := TX9) (N := 45) (ci := 8) (k := 18) (ty := .int) hC hO0 hi_X9_read_X9 rfl (by decide) (by decide) rfl rfl tyX9_ok nmX9 fl133_X9_read rfl rfl rfl rfl rfl dX9_read_31 ?_
  obtain ⟨s10, e11, h⟩ := ld h
  refine V.eq e11 ?_
  refine v_aload_n hC dX9_read_34 0 rfl ?_
  refine v_iconst (v := 0) hC dX9_read_35 (by decide) ?_
  refine v_putI (C := RX9) (T := TX9) (N := 45) (ci := 8) (k := 19) (ty := .int) hC hO0 hi_X9_read_X9 rfl (by decide) (by decide) rfl rfl tyX9_ok nmX9 fl170_X9_read rfl rfl rfl rfl rfl dX9_read_36 ?_
  obtain ⟨s12, e13, h⟩ := ld h
  refine V.eq e13 ?_
  refine v_aload_n hC dX9_read_39 0 rfl ?_
  refine v_iconst (v := 0) hC dX9_read_40 (by decide) ?_
  refine v_putI (C := RX9) (T := TX9) (N := 45) (ci := 8) (k := 20) (ty := .boolean) hC hO0 hi_X9_read_X9 rfl (by decide) (by decide) rfl rfl tyX9_ok nmX9 fl163_X9_read rfl rfl rfl rfl rfl dX9_read_41 ?_
  obtain ⟨s14, e15, h⟩ := ld h
  refine V.eq e15 ?_
  refine v_aload_n hC dX9_read_44 0 rfl ?_
  obtain ⟨s17, hc_16, h⟩ := bd1 h
  refine v_callVV hC mE_ok (n := 0) (As := []) (k_X9_next1 l hG (hO0) hc_16) (cwV 0 hC.1.2.2.2.2 gX9_read_X9_next1 rfl rfl rfl (by decide +kernel) ⟨(Nat.le_of_ble_eq_true rfl), (Nat.le_of_ble_eq_true rfl)⟩) hO0 (by decide) rfl rfl rfl (Nat.le_of_ble_eq_true rfl) ⟨Nat.zero_le _, Nat.zero_le _⟩ dX9_read_45 rfl ?_
  refine v_aload_n hC dX9_read_48 0 rfl ?_
  refine v_ldc2 (v := 168755) hC lc240_X9_read dX9_read_49 ?_
  obtain ⟨r20, s19, hc_18, h⟩ := bd2 h
  refine v_callVI hC mE_ok (n := 1) (As := [.long 168755]) (k_X9_part l hG (hO0) hc_18) (cwV 1 hC.1.2.2.2.2 gX9_read_X9_part rfl rfl rfl (by decide +kernel) ⟨(Nat.le_of_ble_eq_true rfl), (Nat.le_of_ble_eq_true rfl)⟩) hO0 (by decide) rfl rfl rfl (Nat.le_of_ble_eq_true rfl) ⟨Nat.zero_le _, Nat.zero_le _⟩ dX9_read_52 rfl ?_
  refine v_istore (L' := [(0, .ref (G.2.2.1 0)), (4, .int p4), (5, .int r20)]) hC dX9_read_55 (by decide) [1, 5, 0] rfl ?_
  refine v_aload_n hC dX9_read_57 0 rfl ?_
  refine v_get (C := RX9) (T := TX9) (N := 45) (ci := 8) (k := 20) (v := .int (gI s19 0 20)) hC hO0 hi_X9_read_X9 rfl (by decide) (by decide) rfl rfl fl163_X9_read dX9_read_58 rfl ?_
  refine v_if_eq (tgt := 68) hC dX9_read_61 (by decide) (fun c_21 => ?_) (fun c_21 => ?_)
  · replace h := ift c_21 h
    refine v_aload_n hC dX9_read_68 0 rfl ?_
    refine v_ldc2 (v := 385268) hC lc246_X9_read dX9_read_69 ?_
    obtain ⟨r24, s23, hc_22, h⟩ := bd2 h
    refine v_callVI hC mE_ok (n := 1) (As := [.long 385268]) (k_X9_part l hG (hO0) hc_22) (cwV 1 hC.1.2.2.2.2 gX9_read_X9_part rfl rfl rfl (by decide +kernel) ⟨(Nat.le_of_ble_eq_true rfl), (Nat.le_of_ble_eq_true rfl)⟩) hO0 (by decide) rfl rfl rfl (Nat.le_of_ble_eq_true rfl) ⟨Nat.zero_le _, Nat.zero_le _⟩ dX9_read_72 rfl ?_
    exact w_X9_read_75 hG (hO0) hC h
  · replace h := ifn c_21 h
    refine v_iconst (v := 0) hC dX9_read_64 (by decide) ?_
    refine v_goto (tgt := 75) hC dX9_read_65 (by decide) ?_
    exact w_X9_read_75 hG (hO0) hC h
theorem k_X9_read (l : Launch) {G : WD}   {r0 : Int32} {τ : HS} {p1 : Int32} {p2 : Int32} {p3 : Int32} {p4 : Int32} {σ : HS}  (hG : GX G mY) (hO0 : Ob G mY 0 8) (h : c_X9_read p1 p2 p3 p4 σ = some (r0, τ)) : MI mE l yX9_read wsX9_read rmX9_read G mY [.ref (G.2.2.1 0), .int p1, .int p2, .int p3, .int p4] σ r0 τ :=
  MI.of RX9 (by decide) rfl rfl (Nat.le_of_ble_eq_true rfl) rfl rfl (fun p e s m below meth c hC => w_X9_read  hG hO0 hC h)
abbrev rmX9_text : Room := { frames := 158, cells := 0, slots := 0, locals := 7172 }
def c_X9_text_49 (σ : HS) : Option (Int32 × HS) := (if inb (gI σ 0 3) 6 = true then (lt (sI σ 2 (ix (gI σ 0 3)) (gI σ 0 6)) (fun s8 => (lt (sI s8 0 6 0) (fun s10 => (bi2 (c_X9_read (gI s10 0 3) 0 0 0 s10) (fun r14 s13 => (if (gI s13 0 20) = 0 then (lt (sI s13 0 3 ((gI s13 0 3) + 1)) (fun s16 => (some (((gI s16 0 3) - 1), s16)))) else (some (((-100) - (gI s13 0 21)), s13))))))))) else none)
set_option maxHeartbeats 4000000 in
set_option maxRecDepth 100000 in
theorem w_X9_text_49 {p : Program} {l : Launch} {e : Env} {s : State} {m : MethodId} {args : Array Value} {below : List Frame} {meth : Method} {c : Code} {A : Nat → Prop} {G : WD}  {r0 : Int32} {τ : HS}   {σ : HS}  (hG : GX G mY) (hO0 : Ob G mY 0 8) (hC : Cx mE G.1 G.2.1 mY cX9_text 2 (some .int) RX9 wsX9_text p s m args meth c A)  (h : c_X9_text_49  σ = some (r0, τ)) : V p l e rmX9_text s m args below meth c 2 A G mY 0 0 (MQ below (QI G mY A r0 τ) args s 0 0 A) σ 49 [(0, .ref (G.2.2.1 0))] [] := by
  rw [c_X9_text_49] at h
  refine v_aload_n hC dX9_text_49 0 rfl ?_
  refine v_get (C := RX9) (T := TX9) (N := 45) (ci := 8) (k := 2) (v := .ref (G.2.2.1 2)) hC hO0 hi_X9_text_X9 rfl (by decide) (by decide) rfl rfl fl17_X9_text dX9_text_50 rfl ?_
  refine v_aload_n hC dX9_text_53 0 rfl ?_
  refine v_get (C := RX9) (T := TX9) (N := 45) (ci := 8) (k := 3) (v := .int (gI σ 0 3)) hC hO0 hi_X9_text_X9 rfl (by decide) (by decide) rfl rfl fl71_X9_text dX9_text_54 rfl ?_
  refine v_aload_n hC dX9_text_57 0 rfl ?_
  refine v_get (C := RX9) (T := TX9) (N := 45) (ci := 8) (k := 6) (v := .int (gI σ 0 6)) hC hO0 hi_X9_text_X9 rfl (by decide) (by decide) rfl rfl fl124_X9_text dX9_text_58 rfl ?_
  obtain ⟨g_7, h⟩ := gd h
  refine v_iast hC (obM_8_2 hG hO0).1 (obM_8_2 hG hO0).2 (t0 := 0) rfl g_7 dX9_text_61 ?_
  obtain ⟨s8, e9, h⟩ := ld h
  refine V.eq e9 ?_
  refine v_aload_n hC dX9_text_62 0 rfl ?_
  refine v_iconst (v := 0) hC dX9_text_63 (by decide) ?_
  refine v_putI (C := RX9) (T := TX9) (N := 45) (ci := 8) (k := 6) (ty := .int) hC hO0 hi_X9_text_X9 rfl (by decide) (by decide) rfl rfl tyX9_ok nmX9 fl124_X9_text rfl rfl rfl rfl rfl dX9_text_64 ?_
  obtain ⟨s10, e11, h⟩ := ld h
  refine V.eq e11 ?_
  refine v_aload_n hC dX9_text_67 0 rfl ?_
  refine v_aload_n hC dX9_text_68 0 rfl ?_
  refine v_get (C := RX9) (T := TX9) (N := 45) (ci := 8) (k := 3) (v := .int (gI s10 0 3)) hC hO0 hi_X9_text_X9 rfl (by decide) (by decide) rfl rfl fl71_X9_text dX9_text_69 rfl ?_
  refine v_iconst (v := 0) hC dX9_text_72 (by decide) ?_
  refine v_iconst (v := 0) hC dX9_text_73 (by decide) ?_
  refine v_iconst (v := 0) hC dX9_text_74 (by decide) ?_
  obtain ⟨r14, s13, hc_12, h⟩ := bd2 h
  refine v_callVI hC mE_ok (n := 4) (As := [.int (gI s10 0 3), .int 0, .int 0, .int 0]) (k_X9_read l hG (hO0) hc_12) (cwV 4 hC.1.2.2.2.2 gX9_text_X9_read rfl rfl rfl (by decide +kernel) ⟨(Nat.le_of_ble_eq_true rfl), (Nat.le_of_ble_eq_true rfl)⟩) hO0 (by decide) rfl rfl rfl (Nat.le_of_ble_eq_true rfl) ⟨Nat.zero_le _, Nat.zero_le _⟩ dX9_text_75 rfl ?_
  refine v_istore_n (L' := [(0, .ref (G.2.2.1 0))]) hC dX9_text_78 (by decide) [1] rfl ?_
  refine v_aload_n hC dX9_text_79 0 rfl ?_
  refine v_get (C := RX9) (T := TX9) (N := 45) (ci := 8) (k := 20) (v := .int (gI s13 0 20)) hC hO0 hi_X9_text_X9 rfl (by decide) (by decide) rfl rfl fl163_X9_text dX9_text_80 rfl ?_
  refine v_if_eq (tgt := 94) hC dX9_text_83 (by decide) (fun c_15 => ?_) (fun c_15 => ?_)
  · replace h := ift c_15 h
    refine v_aload_n hC dX9_text_94 0 rfl ?_
    refine v_dup hC dX9_text_95 rfl ?_
    refine v_get (C := RX9) (T := TX9) (N := 45) (ci := 8) (k := 3) (v := .int (gI s13 0 3)) hC hO0 hi_X9_text_X9 rfl (by decide) (by decide) rfl rfl fl71_X9_text dX9_text_96 rfl ?_
    refine v_iconst (v := 1) hC dX9_text_99 (by decide) ?_
    refine v_iadd hC dX9_text_100 ?_
    refine v_putI (C := RX9) (T := TX9) (N := 45) (ci := 8) (k := 3) (ty := .int) hC hO0 hi_X9_text_X9 rfl (by decide) (by decide) rfl rfl tyX9_ok nmX9 fl71_X9_text rfl rfl rfl rfl rfl dX9_text_101 ?_
    obtain ⟨s16, e17, h⟩ := ld h
    refine V.eq e17 ?_
    refine v_aload_n hC dX9_text_104 0 rfl ?_
    refine v_get (C := RX9) (T := TX9) (N := 45) (ci := 8) (k := 3) (v := .int (gI s16 0 3)) hC hO0 hi_X9_text_X9 rfl (by decide) (by decide) rfl rfl fl71_X9_text dX9_text_105 rfl ?_
    refine v_iconst (v := 1) hC dX9_text_108 (by decide) ?_
    refine v_isub hC dX9_text_109 ?_
    exact v_iret hC rfl dX9_text_110 h
  · replace h := ifn c_15 h
    refine v_bipush (v := (-100)) hC dX9_text_86 (by decide) ?_
    refine v_aload_n hC dX9_text_88 0 rfl ?_
    refine v_get (C := RX9) (T := TX9) (N := 45) (ci := 8) (k := 21) (v := .int (gI s13 0 21)) hC hO0 hi_X9_text_X9 rfl (by decide) (by decide) rfl rfl fl167_X9_text dX9_text_89 rfl ?_
    refine v_isub hC dX9_text_92 ?_
    exact v_iret hC rfl dX9_text_93 h
def c_X9_text_14 : Nat → Int32 → HS → Option (Int32 × HS)
  | 0, _, _ => none
  | n + 1, x1, σ => (if (gI σ 0 6) ≤ x1 then (c_X9_text_49 σ) else (if inb x1 160 = true then (if inb ((160 * (gI σ 0 3)) + x1) 960 = true then (lt (sI σ 1 (ix ((160 * (gI σ 0 3)) + x1)) (gI σ 3 (ix x1))) (fun s5 => (c_X9_text_14 n (x1 + 1) s5))) else none) else none))
set_option maxHeartbeats 4000000 in
set_option maxRecDepth 100000 in
theorem w_X9_text_14 {p : Program} {l : Launch} {e : Env} {s : State} {m : MethodId} {args : Array Value} {below : List Frame} {meth : Method} {c : Code} {A : Nat → Prop} {G : WD}  {r0 : Int32} {τ : HS}   (hG : GX G mY) (hO0 : Ob G mY 0 8) (hC : Cx mE G.1 G.2.1 mY cX9_text 2 (some .int) RX9 wsX9_text p s m args meth c A)  : ∀ (n : Nat) (x1 : Int32) (σ : HS), c_X9_text_14 n x1 σ = some (r0, τ) → V p l e rmX9_text s m args below meth c 2 A G mY 0 0 (MQ below (QI G mY A r0 τ) args s 0 0 A) σ 14 [(0, .ref (G.2.2.1 0)), (1, .int x1)] [] := by
  intro n
  induction n with
  | zero => intro x1 σ h; exact nof h
  | succ n ih =>
    intro x1 σ h
    rw [c_X9_text_14] at h
    refine v_iload_n hC dX9_text_14 1 rfl ?_
    refine v_aload_n hC dX9_text_15 0 rfl ?_
    refine v_get (C := RX9) (T := TX9) (N := 45) (ci := 8) (k := 6) (v := .int (gI σ 0 6)) hC hO0 hi_X9_text_X9 rfl (by decide) (by decide) rfl rfl fl124_X9_text dX9_text_16 rfl ?_
    refine v_icmp_ge (tgt := 49) hC dX9_text_19 (by decide) (fun c_2 => ?_) (fun c_2 => ?_)
    · replace h := ift c_2 h
      refine V.sub (L' := [(0, .ref (G.2.2.1 0))]) [0] rfl ?_
      exact w_X9_text_49 hG (hO0) hC h
    · replace h := ifn c_2 h
      refine v_aload_n hC dX9_text_22 0 rfl ?_
      refine v_get (C := RX9) (T := TX9) (N := 45) (ci := 8) (k := 1) (v := .ref (G.2.2.1 1)) hC hO0 hi_X9_text_X9 rfl (by decide) (by decide) rfl rfl fl13_X9_text dX9_text_23 rfl ?_
      refine v_sipush (v := 160) hC dX9_text_26 (by decide) ?_
      refine v_aload_n hC dX9_text_29 0 rfl ?_
      refine v_get (C := RX9) (T := TX9) (N := 45) (ci := 8) (k := 3) (v := .int (gI σ 0 3)) hC hO0 hi_X9_text_X9 rfl (by decide) (by decide) rfl rfl fl71_X9_text dX9_text_30 rfl ?_
      refine v_imul hC dX9_text_33 ?_
      refine v_iload_n hC dX9_text_34 1 rfl ?_
      refine v_iadd hC dX9_text_35 ?_
      refine v_aload_n hC dX9_text_36 0 rfl ?_
      refine v_get (C := RX9) (T := TX9) (N := 45) (ci := 8) (k := 5) (v := .ref (G.2.2.1 3)) hC hO0 hi_X9_text_X9 rfl (by decide) (by decide) rfl rfl fl20_X9_text dX9_text_37 rfl ?_
      refine v_iload_n hC dX9_text_40 1 rfl ?_
      obtain ⟨g_3, h⟩ := gd h
      refine v_iald hC (obM_8_5 hG hO0).1 (obM_8_5 hG hO0).2 (t0 := 0) rfl g_3 dX9_text_41 ?_
      obtain ⟨g_4, h⟩ := gd h
      refine v_iast hC (obM_8_1 hG hO0).1 (obM_8_1 hG hO0).2 (t0 := 0) rfl g_4 dX9_text_42 ?_
      obtain ⟨s5, e6, h⟩ := ld h
      refine V.eq e6 ?_
      refine v_iinc (v := (x1 + 1)) (L' := [(0, .ref (G.2.2.1 0)), (1, .int (x1 + 1))]) hC dX9_text_43 1 rfl rfl (by decide) [1, 0] rfl ?_
      refine v_goto (tgt := 14) hC dX9_text_46 (by decide) ?_
      exact ih _ _ h
def c_X9_text (σ : HS) : Option (Int32 × HS) := (if (gI σ 0 3) = 6 then (some ((-4), σ)) else (c_X9_text_14 FU 0 σ))
set_option maxHeartbeats 4000000 in
set_option maxRecDepth 100000 in
theorem w_X9_text {p : Program} {l : Launch} {e : Env} {s : State} {m : MethodId} {args : Array Value} {below : List Frame} {meth : Method} {c : Code} {A : Nat → Prop} {G : WD}  {r0 : Int32} {τ : HS}  {σ : HS}  (hG : GX G mY) (hO0 : Ob G mY 0 8) (hC : Cx mE G.1 G.2.1 mY cX9_text 2 (some .int) RX9 wsX9_text p s m args meth c A) (h : c_X9_text  σ = some (r0, τ)) : V p l e rmX9_text s m args below meth c 2 A G mY 0 0 (MQ below (QI G mY A r0 τ) args s 0 0 A) σ 0 [(0, .ref (G.2.2.1 0))] [] := by
  rw [c_X9_text] at h
  refine v_aload_n hC dX9_text_0 0 rfl ?_
  refine v_get (C := RX9) (T := TX9) (N := 45) (ci := 8) (k := 3) (v := .int (gI σ 0 3)) hC hO0 hi_X9_text_X9 rfl (by decide) (by decide) rfl rfl fl71_X9_text dX9_text_1 rfl ?_
  refine v_bipush (v := 6) hC dX9_text_4 (by decide) ?_
  refine v_icmp_ne (tgt := 12) hC dX9_text_6 (by decide) (fun c_1 => ?_) (fun c_1 => ?_)
  · replace h := ifn c_1 h
    refine v_iconst (v := 0) hC dX9_text_12 (by decide) ?_
    refine v_istore_n (L' := [(0, .ref (G.2.2.1 0)), (1, .int 0)]) hC dX9_text_13 (by decide) [1, 0] rfl ?_
    exact w_X9_text_14 hG (hO0) hC FU _ _ h
  · replace h := ift c_1 h
    refine v_bipush (v := (-4)) hC dX9_text_9 (by decide) ?_
    exact v_iret hC rfl dX9_text_11 h
theorem k_X9_text (l : Launch) {G : WD}   {r0 : Int32} {τ : HS}  {σ : HS}  (hG : GX G mY) (hO0 : Ob G mY 0 8) (h : c_X9_text  σ = some (r0, τ)) : MI mE l yX9_text wsX9_text rmX9_text G mY [.ref (G.2.2.1 0)] σ r0 τ :=
  MI.of RX9 (by decide) rfl rfl (Nat.le_of_ble_eq_true rfl) rfl rfl (fun p e s m below meth c hC => w_X9_text  hG hO0 hC h)
abbrev rmX9_force : Room := { frames := 1, cells := 0, slots := 0, locals := 25 }
def c_X9_force (p1 : Int32) (σ : HS) : Option (Int32 × HS) := (bi2 (c_X9_in (Int32.toInt64 p1) 0 (Int32.toInt64 ((gI σ 0 3) - 1)) σ) (fun r3 s2 => (if r3 = 0 then (some ((-2), s2)) else (lt (sI s2 0 4 p1) (fun s5 => (some ((gI s2 0 4), s5)))))))
set_option maxHeartbeats 4000000 in
set_option maxRecDepth 100000 in
theorem w_X9_force {p : Program} {l : Launch} {e : Env} {s : State} {m : MethodId} {args : Array Value} {below : List Frame} {meth : Method} {c : Code} {A : Nat → Prop} {G : WD}  {r0 : Int32} {τ : HS} {p1 : Int32} {σ : HS}  (hG : GX G mY) (hO0 : Ob G mY 0 8) (hC : Cx mE G.1 G.2.1 mY cX9_force 3 (some .int) RX9 wsX9_force p s m args meth c A) (h : c_X9_force p1 σ = some (r0, τ)) : V p l e rmX9_force s m args below meth c 3 A G mY 0 0 (MQ below (QI G mY A r0 τ) args s 0 0 A) σ 0 [(0, .ref (G.2.2.1 0)), (1, .int p1)] [] := by
  rw [c_X9_force] at h
  refine v_iload_n hC dX9_force_0 1 rfl ?_
  refine v_i2l hC dX9_force_1 ?_
  refine v_lconst (v := 0) hC dX9_force_2 (by decide) ?_
  refine v_aload_n hC dX9_force_3 0 rfl ?_
  refine v_get (C := RX9) (T := TX9) (N := 45) (ci := 8) (k := 3) (v := .int (gI σ 0 3)) hC hO0 hi_X9_force_X9 rfl (by decide) (by decide) rfl rfl fl71_X9_force dX9_force_4 rfl ?_
  refine v_iconst (v := 1) hC dX9_force_7 (by decide) ?_
  refine v_isub hC dX9_force_8 ?_
  refine v_i2l hC dX9_force_9 ?_
  obtain ⟨r3, s2, hc_1, h⟩ := bd2 h
  refine v_callSI hC mE_ok (n := 3) (As := [.long (Int32.toInt64 p1), .long 0, .long (Int32.toInt64 ((gI σ 0 3) - 1))]) (k_X9_in l hG hc_1) (va_cwS 3 hC.1.2.2.2.2 gX9_force_X9_in rfl rfl rfl (by decide +kernel) ⟨(Nat.le_of_ble_eq_true rfl), (Nat.le_of_ble_eq_true rfl)⟩) rfl (Nat.le_of_ble_eq_true rfl) ⟨Nat.zero_le _, Nat.zero_le _⟩ dX9_force_10 rfl ?_
  refine v_if_ne (tgt := 19) hC dX9_force_13 (by decide) (fun c_4 => ?_) (fun c_4 => ?_)
  · replace h := ifn c_4 h
    refine v_aload_n hC dX9_force_19 0 rfl ?_
    refine v_get (C := RX9) (T := TX9) (N := 45) (ci := 8) (k := 4) (v := .int (gI s2 0 4)) hC hO0 hi_X9_force_X9 rfl (by decide) (by decide) rfl rfl fl254_X9_force dX9_force_20 rfl ?_
    refine v_istore_n (L' := [(0, .ref (G.2.2.1 0)), (1, .int p1), (2, .int (gI s2 0 4))]) hC dX9_force_23 (by decide) [1, 2, 0] rfl ?_
    refine v_aload_n hC dX9_force_24 0 rfl ?_
    refine v_iload_n hC dX9_force_25 1 rfl ?_
    refine v_putI (C := RX9) (T := TX9) (N := 45) (ci := 8) (k := 4) (ty := .int) hC hO0 hi_X9_force_X9 rfl (by decide) (by decide) rfl rfl tyX9_ok nmX9 fl254_X9_force rfl rfl rfl rfl rfl dX9_force_26 ?_
    obtain ⟨s5, e6, h⟩ := ld h
    refine V.eq e6 ?_
    refine v_iload_n hC dX9_force_29 2 rfl ?_
    exact v_iret hC rfl dX9_force_30 h
  · replace h := ift c_4 h
    refine v_bipush (v := (-2)) hC dX9_force_16 (by decide) ?_
    exact v_iret hC rfl dX9_force_18 h
theorem k_X9_force (l : Launch) {G : WD}   {r0 : Int32} {τ : HS} {p1 : Int32} {σ : HS}  (hG : GX G mY) (hO0 : Ob G mY 0 8) (h : c_X9_force p1 σ = some (r0, τ)) : MI mE l yX9_force wsX9_force rmX9_force G mY [.ref (G.2.2.1 0), .int p1] σ r0 τ :=
  MI.of RX9 (by decide) rfl rfl (Nat.le_of_ble_eq_true rfl) rfl rfl (fun p e s m below meth c hC => w_X9_force  hG hO0 hC h)
abbrev rmX9_bet : Room := { frames := 158, cells := 0, slots := 0, locals := 7172 }
def c_X9_bet (σ : HS) : Option (Int32 × HS) := (bi1 (c_X9_lays σ) (fun s2 => (bi2 (c_X9_read (gI s2 0 4) 0 0 2 s2) (fun r5 s4 => (some (r5, s4))))))
set_option maxHeartbeats 4000000 in
set_option maxRecDepth 100000 in
theorem w_X9_bet {p : Program} {l : Launch} {e : Env} {s : State} {m : MethodId} {args : Array Value} {below : List Frame} {meth : Method} {c : Code} {A : Nat → Prop} {G : WD}  {r0 : Int32} {τ : HS}  {σ : HS}  (hG : GX G mY) (hO0 : Ob G mY 0 8) (hC : Cx mE G.1 G.2.1 mY cX9_bet 1 (some .int) RX9 wsX9_bet p s m args meth c A) (h : c_X9_bet  σ = some (r0, τ)) : V p l e rmX9_bet s m args below meth c 1 A G mY 0 0 (MQ below (QI G mY A r0 τ) args s 0 0 A) σ 0 [(0, .ref (G.2.2.1 0))] [] := by
  rw [c_X9_bet] at h
  refine v_aload_n hC dX9_bet_0 0 rfl ?_
  obtain ⟨s2, hc_1, h⟩ := bd1 h
  refine v_callVV hC mE_ok (n := 0) (As := []) (k_X9_lays l hG (hO0) hc_1) (cwV 0 hC.1.2.2.2.2 gX9_bet_X9_lays rfl rfl rfl (by decide +kernel) ⟨(Nat.le_of_ble_eq_true rfl), (Nat.le_of_ble_eq_true rfl)⟩) hO0 (by decide) rfl rfl rfl (Nat.le_of_ble_eq_true rfl) ⟨Nat.zero_le _, Nat.zero_le _⟩ dX9_bet_1 rfl ?_
  refine v_aload_n hC dX9_bet_4 0 rfl ?_
  refine v_aload_n hC dX9_bet_5 0 rfl ?_
  refine v_get (C := RX9) (T := TX9) (N := 45) (ci := 8) (k := 4) (v := .int (gI s2 0 4)) hC hO0 hi_X9_bet_X9 rfl (by decide) (by decide) rfl rfl fl254_X9_bet dX9_bet_6 rfl ?_
  refine v_iconst (v := 0) hC dX9_bet_9 (by decide) ?_
  refine v_iconst (v := 0) hC dX9_bet_10 (by decide) ?_
  refine v_iconst (v := 2) hC dX9_bet_11 (by decide) ?_
  obtain ⟨r5, s4, hc_3, h⟩ := bd2 h
  refine v_callVI hC mE_ok (n := 4) (As := [.int (gI s2 0 4), .int 0, .int 0, .int 2]) (k_X9_read l hG (hO0) hc_3) (cwV 4 hC.1.2.2.2.2 gX9_bet_X9_read rfl rfl rfl (by decide +kernel) ⟨(Nat.le_of_ble_eq_true rfl), (Nat.le_of_ble_eq_true rfl)⟩) hO0 (by decide) rfl rfl rfl (Nat.le_of_ble_eq_true rfl) ⟨Nat.zero_le _, Nat.zero_le _⟩ dX9_bet_12 rfl ?_
  exact v_iret hC rfl dX9_bet_15 h
theorem k_X9_bet (l : Launch) {G : WD}   {r0 : Int32} {τ : HS}  {σ : HS}  (hG : GX G mY) (hO0 : Ob G mY 0 8) (h : c_X9_bet  σ = some (r0, τ)) : MI mE l yX9_bet wsX9_bet rmX9_bet G mY [.ref (G.2.2.1 0)] σ r0 τ :=
  MI.of RX9 (by decide) rfl rfl (Nat.le_of_ble_eq_true rfl) rfl rfl (fun p e s m below meth c hC => w_X9_bet  hG hO0 hC h)
