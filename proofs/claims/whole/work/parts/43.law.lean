set_option maxHeartbeats 4000000 in
set_option maxRecDepth 100000 in
theorem law_loop (Rel : XS → YS → Prop) (K : KA) (l : Launch) (h_table : ∀ (G : GG) (ax : Nat) (ad : Ad) (am : Nat → Nat) (X : XS) (Y : YS), Rel X Y → ∀ a1 : Int32, OPi Rel K l G ax ad am yX5_table cX5_table 3 yX6_table cX6_table 3 [.int a1] X Y) (h_child : ∀ (G : GG) (ax : Nat) (ad : Ad) (am : Nat → Nat) (X : XS) (Y : YS), Rel X Y → ∀ a1 a2 a3 a4 : Int32, OPi Rel K l G ax ad am yX5_child cX5_child 6 yX6_child cX6_child 5 [.int a1, .int a2, .int a3, .int a4] X Y) (h_type : ∀ (G : GG) (ax : Nat) (ad : Ad) (am : Nat → Nat) (X : XS) (Y : YS), Rel X Y → ∀ a1 : Int32, OPi Rel K l G ax ad am yX5_type cX5_type 2 yX6_type cX6_type 2 [.int a1] X Y) (h_clear : ∀ (G : GG) (ax : Nat) (ad : Ad) (am : Nat → Nat) (X : XS) (Y : YS), Rel X Y → OPi Rel K l G ax ad am yX5_clear cX5_clear 2 yX6_clear cX6_clear 2 [] X Y) (h_read : ∀ (G : GG) (ax : Nat) (ad : Ad) (am : Nat → Nat) (X : XS) (Y : YS), Rel X Y → OPi Rel K l G ax ad am yX5_read cX5_read 2 yX6_read cX6_read 2 [] X Y) (h_minute : ∀ (G : GG) (ax : Nat) (ad : Ad) (am : Nat → Nat) (X : XS) (Y : YS), Rel X Y → ∀ a1 : Int32, OPi Rel K l G ax ad am yX5_minute cX5_minute 2 yX6_minute cX6_minute 4 [.int a1] X Y) (h_carrot : ∀ (G : GG) (ax : Nat) (ad : Ad) (am : Nat → Nat) (X : XS) (Y : YS), Rel X Y → ∀ a1 : Int32, OPi Rel K l G ax ad am yX5_carrot cX5_carrot 2 yX6_carrot cX6_carrot 2 [.int a1] X Y) (h_moves : ∀ (G : GG) (ax : Nat) (ad : Ad) (am : Nat → Nat) (X : XS) (Y : YS), Rel X Y → ∀ a1 a2 : Int32, OPi Rel K l G ax ad am yX5_moves cX5_moves 5 yX6_moves cX6_moves 5 [.int a1, .int a2] X Y) (h_woman : ∀ (G : GG) (ax : Nat) (ad : Ad) (am : Nat → Nat) (X : XS) (Y : YS), Rel X Y → ∀ a1 : Int32, OPi Rel K l G ax ad am yX5_woman cX5_woman 3 yX6_woman cX6_woman 3 [.int a1] X Y) (h_undo : ∀ (G : GG) (ax : Nat) (ad : Ad) (am : Nat → Nat) (X : XS) (Y : YS), Rel X Y → OPi Rel K l G ax ad am yX5_undo cX5_undo 1 yX6_undo cX6_undo 1 [] X Y) (h_of : ∀ (G : GG) (ax : Nat) (ad : Ad) (am : Nat → Nat) (X : XS) (Y : YS), Rel X Y → ∀ a1 a2 : Int32, OPi Rel K l G ax ad am yX5_of cX5_of 3 yX6_of cX6_of 3 [.int a1, .int a2] X Y) (h_now : ∀ (G : GG) (ax : Nat) (ad : Ad) (am : Nat → Nat) (X : XS) (Y : YS), Rel X Y → ∀ a1 a2 : Int32, OPi Rel K l G ax ad am yX5_now cX5_now 3 yX6_now cX6_now 3 [.int a1, .int a2] X Y) (h_then : ∀ (G : GG) (ax : Nat) (ad : Ad) (am : Nat → Nat) (X : XS) (Y : YS), Rel X Y → ∀ a1 a2 : Int32, OPi Rel K l G ax ad am yX5_then cX5_then 3 yX6_then cX6_then 4 [.int a1, .int a2] X Y) (h_quiet : ∀ (G : GG) (ax : Nat) (ad : Ad) (am : Nat → Nat) (X : XS) (Y : YS), Rel X Y → OPi Rel K l G ax ad am yX5_quiet cX5_quiet 2 yX6_quiet cX6_quiet 2 [] X Y) (h_stand : ∀ (G : GG) (ax : Nat) (ad : Ad) (am : Nat → Nat) (X : XS) (Y : YS), Rel X Y → ∀ a1 a2 : Int32, OPi Rel K l G ax ad am yX5_stand cX5_stand 7 yX6_stand cX6_stand 7 [.int a1, .int a2] X Y) (h_helps : ∀ (G : GG) (ax : Nat) (ad : Ad) (am : Nat → Nat) (X : XS) (Y : YS), Rel X Y → OPi Rel K l G ax ad am yX5_helps cX5_helps 6 yX6_helps cX6_helps 6 [] X Y) (h_seated : ∀ (G : GG) (ax : Nat) (ad : Ad) (am : Nat → Nat) (X : XS) (Y : YS), Rel X Y → ∀ a1 : Int32, OPi Rel K l G ax ad am yX5_seated cX5_seated 4 yX6_seated cX6_seated 3 [.int a1] X Y) (h_words : ∀ (G : GG) (ax : Nat) (ad : Ad) (am : Nat → Nat) (X : XS) (Y : YS), Rel X Y → ∀ a1 : Int32, OPi Rel K l G ax ad am yX5_words cX5_words 3 yX6_words cX6_words 3 [.int a1] X Y) (h_say : ∀ (G : GG) (ax : Nat) (ad : Ad) (am : Nat → Nat) (X : XS) (Y : YS), Rel X Y → OPi Rel K l G ax ad am yX5_say cX5_say 5 yX6_say cX6_say 5 [] X Y) (h_note : ∀ (G : GG) (ax : Nat) (ad : Ad) (am : Nat → Nat) (X : XS) (Y : YS), Rel X Y → ∀ a1 a2 a3 a4 a5 a6 a7 : Int32, OPi Rel K l G ax ad am yX5_note cX5_note 9 yX6_note cX6_note 9 [.int a1, .int a2, .int a3, .int a4, .int a5, .int a6, .int a7] X Y) (h_forget : ∀ (G : GG) (ax : Nat) (ad : Ad) (am : Nat → Nat) (X : XS) (Y : YS), Rel X Y → OPi Rel K l G ax ad am yX5_forget cX5_forget 2 yX6_forget cX6_forget 2 [] X Y) (h_is : ∀ (G : GG) (ax : Nat) (ad : Ad) (am : Nat → Nat) (X : XS) (Y : YS), Rel X Y → ∀ a1 : Int32, OPi Rel K l G ax ad am yX5_is cX5_is 2 yX6_is cX6_is 2 [.int a1] X Y) (h_look : ∀ (G : GG) (ax : Nat) (ad : Ad) (am : Nat → Nat) (X : XS) (Y : YS), Rel X Y → ∀ a1 : Int32, OPi Rel K l G ax ad am yX5_look cX5_look 9 yX6_look cX6_look 7 [.int a1] X Y) (h_who : ∀ (G : GG) (ax : Nat) (ad : Ad) (am : Nat → Nat) (X : XS) (Y : YS), Rel X Y → ∀ a1 : Int32, OPi Rel K l G ax ad am yX5_who cX5_who 4 yX6_who cX6_who 4 [.int a1] X Y) (h_rings : ∀ (G : GG) (ax : Nat) (ad : Ad) (am : Nat → Nat) (X : XS) (Y : YS), Rel X Y → ∀ a1 a2 : Int32, OPi Rel K l G ax ad am yX5_rings cX5_rings 7 yX6_rings cX6_rings 7 [.int a1, .int a2] X Y) (h_eyes : ∀ (G : GG) (ax : Nat) (ad : Ad) (am : Nat → Nat) (X : XS) (Y : YS), Rel X Y → ∀ a1 : Int32, OPi Rel K l G ax ad am yX5_eyes cX5_eyes 4 yX6_eyes cX6_eyes 10 [.int a1] X Y) (h_weeks : ∀ (G : GG) (ax : Nat) (ad : Ad) (am : Nat → Nat) (X : XS) (Y : YS), Rel X Y → ∀ a1 a2 : Int32, OPi Rel K l G ax ad am yX5_weeks cX5_weeks 8 yX6_weeks cX6_weeks 8 [.int a1, .int a2] X Y) (h_part : ∀ (G : GG) (ax : Nat) (ad : Ad) (am : Nat → Nat) (X : XS) (Y : YS), Rel X Y → ∀ a1 : Int32, OPl Rel K l G ax ad am yX5_part cX5_part 2 yX6_part cX6_part 2 [.int a1] X Y) (h_image : ∀ (G : GG) (ax : Nat) (ad : Ad) (am : Nat → Nat) (X : XS) (Y : YS), Rel X Y → ∀ a1 : Int32, OPi Rel K l G ax ad am yX5_image cX5_image 2 yX6_image cX6_image 2 [.int a1] X Y) (h_from : ∀ (G : GG) (ax : Nat) (ad : Ad) (am : Nat → Nat) (X : XS) (Y : YS), Rel X Y → ∀ a1 : Int32, OPi Rel K l G ax ad am yX5_from cX5_from 2 yX6_from cX6_from 2 [.int a1] X Y) (h_status : ∀ (G : GG) (ax : Nat) (ad : Ad) (am : Nat → Nat) (X : XS) (Y : YS), Rel X Y → ∀ a1 : Int32, OPi Rel K l G ax ad am yX5_status cX5_status 2 yX6_status cX6_status 2 [.int a1] X Y) (h_count : ∀ (G : GG) (ax : Nat) (ad : Ad) (am : Nat → Nat) (X : XS) (Y : YS), Rel X Y → ∀ a1 : Int32, OPi Rel K l G ax ad am yX5_count cX5_count 2 yX6_count cX6_count 2 [.int a1] X Y) (h_digest : ∀ (G : GG) (ax : Nat) (ad : Ad) (am : Nat → Nat) (X : XS) (Y : YS), Rel X Y → OPl Rel K l G ax ad am yX5_digest cX5_digest 5 yX6_digest cX6_digest 4 [] X Y)
    {p : Program} {e : Env} {s : State} {m : MethodId} {below : List Frame} {meth : Method} {c : Code} {Q : State → Prop} {G : GG} {A : Nat → Prop} {b L : Nat} {xs : Nat → Int32} (hL : L ≤ 512) (E : Ex G p s m meth c cL_law 4 (some .boolean) RL) (hS : SK K A s s.heap) (hX : va_X b L xs s s.heap) (hbl : b < s.heap.size) (hbA : ¬ A b) (ax : Nat) (ad : Ad) (am : Nat → Nat)
    (fin : ∀ (X : XS) (Y : YS) (H : Heap) (locs : List Loc) (ls : Array Slot), Bd G A s H locs (xB G ax ad X ++ [mY G am Y]) → W p l e room_1 s m #[Value.ref b] below meth c H locs 199 2710 Q (F0 m 1032 ls [.int 1])) :
    ∀ (fuel i : Nat) (X : XS) (Y : YS), Rel X Y → i ≤ 512 → 512 - i < fuel → ∀ (H : Heap) (locs : List Loc) (ls : Array Slot), Bd G A s H locs (xB G ax ad X ++ [mY G am Y]) → lv_has ls 4 [(0, .ref b), (1, .ref ax), (2, .ref (am 0)), (3, .int (nI i))] → W p l e room_1 s m #[Value.ref b] below meth c H locs 199 2710 Q (F0 m 18 ls []) := by
  have hx := E.1
  have hb := E.2.1
  intro fuel
  induction fuel with
  | zero => intro i X Y _ _ h; omega
  | succ fuel ih =>
    intro i X Y hrel hi hfu H locs ls hw hl
    refine lv_iload_n hx hb dL_law_18 rfl (lv_at hl 3 rfl) ?_
    refine lv_aload_n hx hb dL_law_19 rfl (lv_at hl 0 rfl) ?_
    refine va_slen hx hb hX hbl hbA hw.2.2 dL_law_20 ?_
    refine lv_bipush (v := 8) hx hb dL_law_21 rfl ?_
    refine lv_isub hx hb dL_law_23 ?_
    refine lv_icmp_gt (tgt := 1031) hx hb dL_law_24 rfl (fun cq => ?_) (fun cq => ?_)
    · refine lv_iconst (v := 1) hx hb dL_law_1031 rfl ?_
      exact fin X Y H locs ls hw
    have hi8 : i + 8 ≤ L := law_end hL (by omega) cq
    have nxt : ∀ (X : XS) (Y : YS), Rel X Y → ∀ (H : Heap) (locs : List Loc), Bd G A s H locs (xB G ax ad X ++ [mY G am Y]) → W p l e room_1 s m #[Value.ref b] below meth c H locs 199 2710 Q (F0 m 1025 ls []) := by
      intro X Y hrel H locs hw
      refine lv_iinc (v := nI (i + 8)) (lv' := [(3, .int (nI (i + 8))), (0, .ref b), (1, .ref ax), (2, .ref (am 0))]) hx hb dL_law_1025 hl (k := 3) rfl (nI_add i 8) (by decide) rfl (fun ls hl => ?_)
      refine lv_goto (tgt := 18) hx hb dL_law_1028 rfl ?_
      exact ih (i + 8) X Y hrel (by omega) (by omega) _ _ _ hw (lv_sub hl [1, 2, 3, 0] rfl)
    refine lv_aload_n hx hb dL_law_27 rfl (lv_at hl 0 rfl) ?_
    refine lv_iload_n hx hb dL_law_28 rfl (lv_at hl 3 rfl) ?_
    refine l_sld E hw hX hbl hbA i rfl (by omega) hL dL_law_29 ?_
    refine lv_bipush (v := 63) hx hb dL_law_30 rfl ?_
    refine lv_iand hx hb dL_law_32 ?_
    generalize xs i &&& 63 = op
    by_cases co_0 : op = (0 : Int32)
    · refine lv_tableIn (off := 147) (tgt := 180) hx hb dL_law_33 (by rw [co_0]; decide) (by rw [co_0]; decide) (by rw [co_0]; rfl) rfl ?_
      obtain ⟨r, σ, τ, Fx, Fy, cx, cm, hR⟩ := h_table G ax ad am X Y hrel (xs (i + 1))
      refine lv_aload_n hx hb dL_law_180 rfl (lv_at hl 1 rfl) ?_
      refine lv_aload_n hx hb dL_law_181 rfl (lv_at hl 0 rfl) ?_
      refine lv_iload_n hx hb dL_law_182 rfl (lv_at hl 3 rfl) ?_
      refine lv_iconst (v := 1) hx hb dL_law_183 rfl ?_
      refine lv_iadd hx hb dL_law_184 ?_
      refine l_sld E hw hX hbl hbA (i + 1) (nI_add i 1) (by omega) hL dL_law_185 ?_
      refine lc_callV (is := is19) (As := [.int (xs (i + 1))]) (rest := []) (st1 := [.int r]) (bs' := fun u => xB G ax ad (Fx u) ++ [mY G am Y]) E hS cx vw_L_13 hw is19 rfl 0 0 rfl rfl rfl rfl (xB_pick _ _ _ _ _) (by decide) (fun _ => xB_adr _ _ _ _ _) hl.1 rfl rfl (Nat.le_of_ble_eq_true rfl) ⟨Nat.le_of_ble_eq_true rfl, Nat.le_of_ble_eq_true rfl⟩ (Nat.le_of_ble_eq_true rfl) (Nat.le_of_ble_eq_true rfl) dL_law_186 (fun _ => xB_set _ _ _ _ _ _) rfl (fun u H locs hw => ?_)
      refine lv_aload_n hx hb dL_law_189 rfl (lv_at hl 2 rfl) ?_
      refine lv_aload_n hx hb dL_law_190 rfl (lv_at hl 0 rfl) ?_
      refine lv_iload_n hx hb dL_law_191 rfl (lv_at hl 3 rfl) ?_
      refine lv_iconst (v := 1) hx hb dL_law_192 rfl ?_
      refine lv_iadd hx hb dL_law_193 ?_
      refine l_sld E hw hX hbl hbA (i + 1) (nI_add i 1) (by omega) hL dL_law_194 ?_
      refine lc_callV (is := [19]) (As := [.int (xs (i + 1))]) (rest := [.int r]) (st1 := [.int r, .int r]) (bs' := fun v => xB G ax ad (Fx u) ++ [mY G am (Fy v)]) E hS cm vw_L_17 hw [19] rfl 19 0 rfl rfl rfl rfl (mY_pick _ _ _ _ _) (by decide) (fun _ => mY_adr _ _ _ _) hl.1 rfl rfl (Nat.le_of_ble_eq_true rfl) ⟨Nat.le_of_ble_eq_true rfl, Nat.le_of_ble_eq_true rfl⟩ (Nat.le_of_ble_eq_true rfl) (Nat.le_of_ble_eq_true rfl) dL_law_195 (fun _ => mY_set _ _ _ _ _ _) rfl (fun v H locs hw => ?_)
      refine lv_icmp_eq (tgt := 1025) hx hb dL_law_198 rfl (fun _ => ?_) (fun cz => absurd rfl cz)
      exact nxt _ _ (hR u v) H locs hw
    by_cases co_1 : op = (1 : Int32)
    · refine lv_tableIn (off := 170) (tgt := 203) hx hb dL_law_33 (by rw [co_1]; decide) (by rw [co_1]; decide) (by rw [co_1]; rfl) rfl ?_
      obtain ⟨r, σ, τ, Fx, Fy, cx, cm, hR⟩ := h_child G ax ad am X Y hrel (xs (i + 1)) (xs (i + 2)) (xs (i + 3)) (xs (i + 4))
      refine lv_aload_n hx hb dL_law_203 rfl (lv_at hl 1 rfl) ?_
      refine lv_aload_n hx hb dL_law_204 rfl (lv_at hl 0 rfl) ?_
      refine lv_iload_n hx hb dL_law_205 rfl (lv_at hl 3 rfl) ?_
      refine lv_iconst (v := 1) hx hb dL_law_206 rfl ?_
      refine lv_iadd hx hb dL_law_207 ?_
      refine l_sld E hw hX hbl hbA (i + 1) (nI_add i 1) (by omega) hL dL_law_208 ?_
      refine lv_aload_n hx hb dL_law_209 rfl (lv_at hl 0 rfl) ?_
      refine lv_iload_n hx hb dL_law_210 rfl (lv_at hl 3 rfl) ?_
      refine lv_iconst (v := 2) hx hb dL_law_211 rfl ?_
      refine lv_iadd hx hb dL_law_212 ?_
      refine l_sld E hw hX hbl hbA (i + 2) (nI_add i 2) (by omega) hL dL_law_213 ?_
      refine lv_aload_n hx hb dL_law_214 rfl (lv_at hl 0 rfl) ?_
      refine lv_iload_n hx hb dL_law_215 rfl (lv_at hl 3 rfl) ?_
      refine lv_iconst (v := 3) hx hb dL_law_216 rfl ?_
      refine lv_iadd hx hb dL_law_217 ?_
      refine l_sld E hw hX hbl hbA (i + 3) (nI_add i 3) (by omega) hL dL_law_218 ?_
      refine lv_aload_n hx hb dL_law_219 rfl (lv_at hl 0 rfl) ?_
      refine lv_iload_n hx hb dL_law_220 rfl (lv_at hl 3 rfl) ?_
      refine lv_iconst (v := 4) hx hb dL_law_221 rfl ?_
      refine lv_iadd hx hb dL_law_222 ?_
      refine l_sld E hw hX hbl hbA (i + 4) (nI_add i 4) (by omega) hL dL_law_223 ?_
      refine lc_callV (is := is19) (As := [.int (xs (i + 1)), .int (xs (i + 2)), .int (xs (i + 3)), .int (xs (i + 4))]) (rest := []) (st1 := [.int r]) (bs' := fun u => xB G ax ad (Fx u) ++ [mY G am Y]) E hS cx vw_L_18 hw is19 rfl 0 0 rfl rfl rfl rfl (xB_pick _ _ _ _ _) (by decide) (fun _ => xB_adr _ _ _ _ _) hl.1 rfl rfl (Nat.le_of_ble_eq_true rfl) ⟨Nat.le_of_ble_eq_true rfl, Nat.le_of_ble_eq_true rfl⟩ (Nat.le_of_ble_eq_true rfl) (Nat.le_of_ble_eq_true rfl) dL_law_224 (fun _ => xB_set _ _ _ _ _ _) rfl (fun u H locs hw => ?_)
      refine lv_aload_n hx hb dL_law_227 rfl (lv_at hl 2 rfl) ?_
      refine lv_aload_n hx hb dL_law_228 rfl (lv_at hl 0 rfl) ?_
      refine lv_iload_n hx hb dL_law_229 rfl (lv_at hl 3 rfl) ?_
      refine lv_iconst (v := 1) hx hb dL_law_230 rfl ?_
      refine lv_iadd hx hb dL_law_231 ?_
      refine l_sld E hw hX hbl hbA (i + 1) (nI_add i 1) (by omega) hL dL_law_232 ?_
      refine lv_aload_n hx hb dL_law_233 rfl (lv_at hl 0 rfl) ?_
      refine lv_iload_n hx hb dL_law_234 rfl (lv_at hl 3 rfl) ?_
      refine lv_iconst (v := 2) hx hb dL_law_235 rfl ?_
      refine lv_iadd hx hb dL_law_236 ?_
      refine l_sld E hw hX hbl hbA (i + 2) (nI_add i 2) (by omega) hL dL_law_237 ?_
      refine lv_aload_n hx hb dL_law_238 rfl (lv_at hl 0 rfl) ?_
      refine lv_iload_n hx hb dL_law_239 rfl (lv_at hl 3 rfl) ?_
      refine lv_iconst (v := 3) hx hb dL_law_240 rfl ?_
      refine lv_iadd hx hb dL_law_241 ?_
      refine l_sld E hw hX hbl hbA (i + 3) (nI_add i 3) (by omega) hL dL_law_242 ?_
      refine lv_aload_n hx hb dL_law_243 rfl (lv_at hl 0 rfl) ?_
      refine lv_iload_n hx hb dL_law_244 rfl (lv_at hl 3 rfl) ?_
      refine lv_iconst (v := 4) hx hb dL_law_245 rfl ?_
      refine lv_iadd hx hb dL_law_246 ?_
      refine l_sld E hw hX hbl hbA (i + 4) (nI_add i 4) (by omega) hL dL_law_247 ?_
      refine lc_callV (is := [19]) (As := [.int (xs (i + 1)), .int (xs (i + 2)), .int (xs (i + 3)), .int (xs (i + 4))]) (rest := [.int r]) (st1 := [.int r, .int r]) (bs' := fun v => xB G ax ad (Fx u) ++ [mY G am (Fy v)]) E hS cm vw_L_22 hw [19] rfl 19 0 rfl rfl rfl rfl (mY_pick _ _ _ _ _) (by decide) (fun _ => mY_adr _ _ _ _) hl.1 rfl rfl (Nat.le_of_ble_eq_true rfl) ⟨Nat.le_of_ble_eq_true rfl, Nat.le_of_ble_eq_true rfl⟩ (Nat.le_of_ble_eq_true rfl) (Nat.le_of_ble_eq_true rfl) dL_law_248 (fun _ => mY_set _ _ _ _ _ _) rfl (fun v H locs hw => ?_)
      refine lv_icmp_eq (tgt := 1025) hx hb dL_law_251 rfl (fun _ => ?_) (fun cz => absurd rfl cz)
      exact nxt _ _ (hR u v) H locs hw
    by_cases co_2 : op = (2 : Int32)
    · refine lv_tableIn (off := 223) (tgt := 256) hx hb dL_law_33 (by rw [co_2]; decide) (by rw [co_2]; decide) (by rw [co_2]; rfl) rfl ?_
      obtain ⟨r, σ, τ, Fx, Fy, cx, cm, hR⟩ := h_type G ax ad am X Y hrel (xs (i + 1))
      refine lv_aload_n hx hb dL_law_256 rfl (lv_at hl 1 rfl) ?_
      refine lv_aload_n hx hb dL_law_257 rfl (lv_at hl 0 rfl) ?_
      refine lv_iload_n hx hb dL_law_258 rfl (lv_at hl 3 rfl) ?_
      refine lv_iconst (v := 1) hx hb dL_law_259 rfl ?_
      refine lv_iadd hx hb dL_law_260 ?_
      refine l_sld E hw hX hbl hbA (i + 1) (nI_add i 1) (by omega) hL dL_law_261 ?_
      refine lc_callV (is := is19) (As := [.int (xs (i + 1))]) (rest := []) (st1 := [.int r]) (bs' := fun u => xB G ax ad (Fx u) ++ [mY G am Y]) E hS cx vw_L_23 hw is19 rfl 0 0 rfl rfl rfl rfl (xB_pick _ _ _ _ _) (by decide) (fun _ => xB_adr _ _ _ _ _) hl.1 rfl rfl (Nat.le_of_ble_eq_true rfl) ⟨Nat.le_of_ble_eq_true rfl, Nat.le_of_ble_eq_true rfl⟩ (Nat.le_of_ble_eq_true rfl) (Nat.le_of_ble_eq_true rfl) dL_law_262 (fun _ => xB_set _ _ _ _ _ _) rfl (fun u H locs hw => ?_)
      refine lv_aload_n hx hb dL_law_265 rfl (lv_at hl 2 rfl) ?_
      refine lv_aload_n hx hb dL_law_266 rfl (lv_at hl 0 rfl) ?_
      refine lv_iload_n hx hb dL_law_267 rfl (lv_at hl 3 rfl) ?_
      refine lv_iconst (v := 1) hx hb dL_law_268 rfl ?_
      refine lv_iadd hx hb dL_law_269 ?_
      refine l_sld E hw hX hbl hbA (i + 1) (nI_add i 1) (by omega) hL dL_law_270 ?_
      refine lc_callV (is := [19]) (As := [.int (xs (i + 1))]) (rest := [.int r]) (st1 := [.int r, .int r]) (bs' := fun v => xB G ax ad (Fx u) ++ [mY G am (Fy v)]) E hS cm vw_L_26 hw [19] rfl 19 0 rfl rfl rfl rfl (mY_pick _ _ _ _ _) (by decide) (fun _ => mY_adr _ _ _ _) hl.1 rfl rfl (Nat.le_of_ble_eq_true rfl) ⟨Nat.le_of_ble_eq_true rfl, Nat.le_of_ble_eq_true rfl⟩ (Nat.le_of_ble_eq_true rfl) (Nat.le_of_ble_eq_true rfl) dL_law_271 (fun _ => mY_set _ _ _ _ _ _) rfl (fun v H locs hw => ?_)
      refine lv_icmp_eq (tgt := 1025) hx hb dL_law_274 rfl (fun _ => ?_) (fun cz => absurd rfl cz)
      exact nxt _ _ (hR u v) H locs hw
    by_cases co_3 : op = (3 : Int32)
    · refine lv_tableIn (off := 246) (tgt := 279) hx hb dL_law_33 (by rw [co_3]; decide) (by rw [co_3]; decide) (by rw [co_3]; rfl) rfl ?_
      obtain ⟨r, σ, τ, Fx, Fy, cx, cm, hR⟩ := h_clear G ax ad am X Y hrel 
      refine lv_aload_n hx hb dL_law_279 rfl (lv_at hl 1 rfl) ?_
      refine lc_callV (is := is19) (As := []) (rest := []) (st1 := [.int r]) (bs' := fun u => xB G ax ad (Fx u) ++ [mY G am Y]) E hS cx vw_L_27 hw is19 rfl 0 0 rfl rfl rfl rfl (xB_pick _ _ _ _ _) (by decide) (fun _ => xB_adr _ _ _ _ _) hl.1 rfl rfl (Nat.le_of_ble_eq_true rfl) ⟨Nat.le_of_ble_eq_true rfl, Nat.le_of_ble_eq_true rfl⟩ (Nat.le_of_ble_eq_true rfl) (Nat.le_of_ble_eq_true rfl) dL_law_280 (fun _ => xB_set _ _ _ _ _ _) rfl (fun u H locs hw => ?_)
      refine lv_aload_n hx hb dL_law_283 rfl (lv_at hl 2 rfl) ?_
      refine lc_callV (is := [19]) (As := []) (rest := [.int r]) (st1 := [.int r, .int r]) (bs' := fun v => xB G ax ad (Fx u) ++ [mY G am (Fy v)]) E hS cm vw_L_31 hw [19] rfl 19 0 rfl rfl rfl rfl (mY_pick _ _ _ _ _) (by decide) (fun _ => mY_adr _ _ _ _) hl.1 rfl rfl (Nat.le_of_ble_eq_true rfl) ⟨Nat.le_of_ble_eq_true rfl, Nat.le_of_ble_eq_true rfl⟩ (Nat.le_of_ble_eq_true rfl) (Nat.le_of_ble_eq_true rfl) dL_law_284 (fun _ => mY_set _ _ _ _ _ _) rfl (fun v H locs hw => ?_)
      refine lv_icmp_eq (tgt := 1025) hx hb dL_law_287 rfl (fun _ => ?_) (fun cz => absurd rfl cz)
      exact nxt _ _ (hR u v) H locs hw
    by_cases co_4 : op = (4 : Int32)
    · refine lv_tableIn (off := 259) (tgt := 292) hx hb dL_law_33 (by rw [co_4]; decide) (by rw [co_4]; decide) (by rw [co_4]; rfl) rfl ?_
      obtain ⟨r, σ, τ, Fx, Fy, cx, cm, hR⟩ := h_read G ax ad am X Y hrel 
      refine lv_aload_n hx hb dL_law_292 rfl (lv_at hl 1 rfl) ?_
      refine lc_callV (is := is19) (As := []) (rest := []) (st1 := [.int r]) (bs' := fun u => xB G ax ad (Fx u) ++ [mY G am Y]) E hS cx vw_L_32 hw is19 rfl 0 0 rfl rfl rfl rfl (xB_pick _ _ _ _ _) (by decide) (fun _ => xB_adr _ _ _ _ _) hl.1 rfl rfl (Nat.le_of_ble_eq_true rfl) ⟨Nat.le_of_ble_eq_true rfl, Nat.le_of_ble_eq_true rfl⟩ (Nat.le_of_ble_eq_true rfl) (Nat.le_of_ble_eq_true rfl) dL_law_293 (fun _ => xB_set _ _ _ _ _ _) rfl (fun u H locs hw => ?_)
      refine lv_aload_n hx hb dL_law_296 rfl (lv_at hl 2 rfl) ?_
      refine lc_callV (is := [19]) (As := []) (rest := [.int r]) (st1 := [.int r, .int r]) (bs' := fun v => xB G ax ad (Fx u) ++ [mY G am (Fy v)]) E hS cm vw_L_35 hw [19] rfl 19 0 rfl rfl rfl rfl (mY_pick _ _ _ _ _) (by decide) (fun _ => mY_adr _ _ _ _) hl.1 rfl rfl (Nat.le_of_ble_eq_true rfl) ⟨Nat.le_of_ble_eq_true rfl, Nat.le_of_ble_eq_true rfl⟩ (Nat.le_of_ble_eq_true rfl) (Nat.le_of_ble_eq_true rfl) dL_law_297 (fun _ => mY_set _ _ _ _ _ _) rfl (fun v H locs hw => ?_)
      refine lv_icmp_eq (tgt := 1025) hx hb dL_law_300 rfl (fun _ => ?_) (fun cz => absurd rfl cz)
      exact nxt _ _ (hR u v) H locs hw
    by_cases co_5 : op = (5 : Int32)
    · refine lv_tableIn (off := 272) (tgt := 305) hx hb dL_law_33 (by rw [co_5]; decide) (by rw [co_5]; decide) (by rw [co_5]; rfl) rfl ?_
      obtain ⟨r, σ, τ, Fx, Fy, cx, cm, hR⟩ := h_minute G ax ad am X Y hrel (xs (i + 1))
      refine lv_aload_n hx hb dL_law_305 rfl (lv_at hl 1 rfl) ?_
      refine lv_aload_n hx hb dL_law_306 rfl (lv_at hl 0 rfl) ?_
      refine lv_iload_n hx hb dL_law_307 rfl (lv_at hl 3 rfl) ?_
      refine lv_iconst (v := 1) hx hb dL_law_308 rfl ?_
      refine lv_iadd hx hb dL_law_309 ?_
      refine l_sld E hw hX hbl hbA (i + 1) (nI_add i 1) (by omega) hL dL_law_310 ?_
      refine lc_callV (is := is19) (As := [.int (xs (i + 1))]) (rest := []) (st1 := [.int r]) (bs' := fun u => xB G ax ad (Fx u) ++ [mY G am Y]) E hS cx vw_L_36 hw is19 rfl 0 0 rfl rfl rfl rfl (xB_pick _ _ _ _ _) (by decide) (fun _ => xB_adr _ _ _ _ _) hl.1 rfl rfl (Nat.le_of_ble_eq_true rfl) ⟨Nat.le_of_ble_eq_true rfl, Nat.le_of_ble_eq_true rfl⟩ (Nat.le_of_ble_eq_true rfl) (Nat.le_of_ble_eq_true rfl) dL_law_311 (fun _ => xB_set _ _ _ _ _ _) rfl (fun u H locs hw => ?_)
      refine lv_aload_n hx hb dL_law_314 rfl (lv_at hl 2 rfl) ?_
      refine lv_aload_n hx hb dL_law_315 rfl (lv_at hl 0 rfl) ?_
      refine lv_iload_n hx hb dL_law_316 rfl (lv_at hl 3 rfl) ?_
      refine lv_iconst (v := 1) hx hb dL_law_317 rfl ?_
      refine lv_iadd hx hb dL_law_318 ?_
      refine l_sld E hw hX hbl hbA (i + 1) (nI_add i 1) (by omega) hL dL_law_319 ?_
      refine lc_callV (is := [19]) (As := [.int (xs (i + 1))]) (rest := [.int r]) (st1 := [.int r, .int r]) (bs' := fun v => xB G ax ad (Fx u) ++ [mY G am (Fy v)]) E hS cm vw_L_39 hw [19] rfl 19 0 rfl rfl rfl rfl (mY_pick _ _ _ _ _) (by decide) (fun _ => mY_adr _ _ _ _) hl.1 rfl rfl (Nat.le_of_ble_eq_true rfl) ⟨Nat.le_of_ble_eq_true rfl, Nat.le_of_ble_eq_true rfl⟩ (Nat.le_of_ble_eq_true rfl) (Nat.le_of_ble_eq_true rfl) dL_law_320 (fun _ => mY_set _ _ _ _ _ _) rfl (fun v H locs hw => ?_)
      refine lv_icmp_eq (tgt := 1025) hx hb dL_law_323 rfl (fun _ => ?_) (fun cz => absurd rfl cz)
      exact nxt _ _ (hR u v) H locs hw
    by_cases co_6 : op = (6 : Int32)
    · refine lv_tableIn (off := 295) (tgt := 328) hx hb dL_law_33 (by rw [co_6]; decide) (by rw [co_6]; decide) (by rw [co_6]; rfl) rfl ?_
      obtain ⟨r, σ, τ, Fx, Fy, cx, cm, hR⟩ := h_carrot G ax ad am X Y hrel (xs (i + 1))
      refine lv_aload_n hx hb dL_law_328 rfl (lv_at hl 1 rfl) ?_
      refine lv_aload_n hx hb dL_law_329 rfl (lv_at hl 0 rfl) ?_
      refine lv_iload_n hx hb dL_law_330 rfl (lv_at hl 3 rfl) ?_
      refine lv_iconst (v := 1) hx hb dL_law_331 rfl ?_
      refine lv_iadd hx hb dL_law_332 ?_
      refine l_sld E hw hX hbl hbA (i + 1) (nI_add i 1) (by omega) hL dL_law_333 ?_
      refine lc_callV (is := is19) (As := [.int (xs (i + 1))]) (rest := []) (st1 := [.int r]) (bs' := fun u => xB G ax ad (Fx u) ++ [mY G am Y]) E hS cx vw_L_40 hw is19 rfl 0 0 rfl rfl rfl rfl (xB_pick _ _ _ _ _) (by decide) (fun _ => xB_adr _ _ _ _ _) hl.1 rfl rfl (Nat.le_of_ble_eq_true rfl) ⟨Nat.le_of_ble_eq_true rfl, Nat.le_of_ble_eq_true rfl⟩ (Nat.le_of_ble_eq_true rfl) (Nat.le_of_ble_eq_true rfl) dL_law_334 (fun _ => xB_set _ _ _ _ _ _) rfl (fun u H locs hw => ?_)
      refine lv_aload_n hx hb dL_law_337 rfl (lv_at hl 2 rfl) ?_
      refine lv_aload_n hx hb dL_law_338 rfl (lv_at hl 0 rfl) ?_
      refine lv_iload_n hx hb dL_law_339 rfl (lv_at hl 3 rfl) ?_
      refine lv_iconst (v := 1) hx hb dL_law_340 rfl ?_
      refine lv_iadd hx hb dL_law_341 ?_
      refine l_sld E hw hX hbl hbA (i + 1) (nI_add i 1) (by omega) hL dL_law_342 ?_
      refine lc_callV (is := [19]) (As := [.int (xs (i + 1))]) (rest := [.int r]) (st1 := [.int r, .int r]) (bs' := fun v => xB G ax ad (Fx u) ++ [mY G am (Fy v)]) E hS cm vw_L_43 hw [19] rfl 19 0 rfl rfl rfl rfl (mY_pick _ _ _ _ _) (by decide) (fun _ => mY_adr _ _ _ _) hl.1 rfl rfl (Nat.le_of_ble_eq_true rfl) ⟨Nat.le_of_ble_eq_true rfl, Nat.le_of_ble_eq_true rfl⟩ (Nat.le_of_ble_eq_true rfl) (Nat.le_of_ble_eq_true rfl) dL_law_343 (fun _ => mY_set _ _ _ _ _ _) rfl (fun v H locs hw => ?_)
      refine lv_icmp_eq (tgt := 1025) hx hb dL_law_346 rfl (fun _ => ?_) (fun cz => absurd rfl cz)
      exact nxt _ _ (hR u v) H locs hw
    by_cases co_7 : op = (7 : Int32)
    · refine lv_tableIn (off := 318) (tgt := 351) hx hb dL_law_33 (by rw [co_7]; decide) (by rw [co_7]; decide) (by rw [co_7]; rfl) rfl ?_
      obtain ⟨r, σ, τ, Fx, Fy, cx, cm, hR⟩ := h_moves G ax ad am X Y hrel (xs (i + 1)) (xs (i + 2))
      refine lv_aload_n hx hb dL_law_351 rfl (lv_at hl 1 rfl) ?_
      refine lv_aload_n hx hb dL_law_352 rfl (lv_at hl 0 rfl) ?_
      refine lv_iload_n hx hb dL_law_353 rfl (lv_at hl 3 rfl) ?_
      refine lv_iconst (v := 1) hx hb dL_law_354 rfl ?_
      refine lv_iadd hx hb dL_law_355 ?_
      refine l_sld E hw hX hbl hbA (i + 1) (nI_add i 1) (by omega) hL dL_law_356 ?_
      refine lv_aload_n hx hb dL_law_357 rfl (lv_at hl 0 rfl) ?_
      refine lv_iload_n hx hb dL_law_358 rfl (lv_at hl 3 rfl) ?_
      refine lv_iconst (v := 2) hx hb dL_law_359 rfl ?_
      refine lv_iadd hx hb dL_law_360 ?_
      refine l_sld E hw hX hbl hbA (i + 2) (nI_add i 2) (by omega) hL dL_law_361 ?_
      refine lc_callV (is := is19) (As := [.int (xs (i + 1)), .int (xs (i + 2))]) (rest := []) (st1 := [.int r]) (bs' := fun u => xB G ax ad (Fx u) ++ [mY G am Y]) E hS cx vw_L_44 hw is19 rfl 0 0 rfl rfl rfl rfl (xB_pick _ _ _ _ _) (by decide) (fun _ => xB_adr _ _ _ _ _) hl.1 rfl rfl (Nat.le_of_ble_eq_true rfl) ⟨Nat.le_of_ble_eq_true rfl, Nat.le_of_ble_eq_true rfl⟩ (Nat.le_of_ble_eq_true rfl) (Nat.le_of_ble_eq_true rfl) dL_law_362 (fun _ => xB_set _ _ _ _ _ _) rfl (fun u H locs hw => ?_)
      refine lv_aload_n hx hb dL_law_365 rfl (lv_at hl 2 rfl) ?_
      refine lv_aload_n hx hb dL_law_366 rfl (lv_at hl 0 rfl) ?_
      refine lv_iload_n hx hb dL_law_367 rfl (lv_at hl 3 rfl) ?_
      refine lv_iconst (v := 1) hx hb dL_law_368 rfl ?_
      refine lv_iadd hx hb dL_law_369 ?_
      refine l_sld E hw hX hbl hbA (i + 1) (nI_add i 1) (by omega) hL dL_law_370 ?_
      refine lv_aload_n hx hb dL_law_371 rfl (lv_at hl 0 rfl) ?_
      refine lv_iload_n hx hb dL_law_372 rfl (lv_at hl 3 rfl) ?_
      refine lv_iconst (v := 2) hx hb dL_law_373 rfl ?_
      refine lv_iadd hx hb dL_law_374 ?_
      refine l_sld E hw hX hbl hbA (i + 2) (nI_add i 2) (by omega) hL dL_law_375 ?_
      refine lc_callV (is := [19]) (As := [.int (xs (i + 1)), .int (xs (i + 2))]) (rest := [.int r]) (st1 := [.int r, .int r]) (bs' := fun v => xB G ax ad (Fx u) ++ [mY G am (Fy v)]) E hS cm vw_L_48 hw [19] rfl 19 0 rfl rfl rfl rfl (mY_pick _ _ _ _ _) (by decide) (fun _ => mY_adr _ _ _ _) hl.1 rfl rfl (Nat.le_of_ble_eq_true rfl) ⟨Nat.le_of_ble_eq_true rfl, Nat.le_of_ble_eq_true rfl⟩ (Nat.le_of_ble_eq_true rfl) (Nat.le_of_ble_eq_true rfl) dL_law_376 (fun _ => mY_set _ _ _ _ _ _) rfl (fun v H locs hw => ?_)
      refine lv_icmp_eq (tgt := 1025) hx hb dL_law_379 rfl (fun _ => ?_) (fun cz => absurd rfl cz)
      exact nxt _ _ (hR u v) H locs hw
    by_cases co_8 : op = (8 : Int32)
    · refine lv_tableIn (off := 351) (tgt := 384) hx hb dL_law_33 (by rw [co_8]; decide) (by rw [co_8]; decide) (by rw [co_8]; rfl) rfl ?_
      obtain ⟨r, σ, τ, Fx, Fy, cx, cm, hR⟩ := h_woman G ax ad am X Y hrel (xs (i + 1))
      refine lv_aload_n hx hb dL_law_384 rfl (lv_at hl 1 rfl) ?_
      refine lv_aload_n hx hb dL_law_385 rfl (lv_at hl 0 rfl) ?_
      refine lv_iload_n hx hb dL_law_386 rfl (lv_at hl 3 rfl) ?_
      refine lv_iconst (v := 1) hx hb dL_law_387 rfl ?_
      refine lv_iadd hx hb dL_law_388 ?_
      refine l_sld E hw hX hbl hbA (i + 1) (nI_add i 1) (by omega) hL dL_law_389 ?_
      refine lc_callV (is := is19) (As := [.int (xs (i + 1))]) (rest := []) (st1 := [.int r]) (bs' := fun u => xB G ax ad (Fx u) ++ [mY G am Y]) E hS cx vw_L_49 hw is19 rfl 0 0 rfl rfl rfl rfl (xB_pick _ _ _ _ _) (by decide) (fun _ => xB_adr _ _ _ _ _) hl.1 rfl rfl (Nat.le_of_ble_eq_true rfl) ⟨Nat.le_of_ble_eq_true rfl, Nat.le_of_ble_eq_true rfl⟩ (Nat.le_of_ble_eq_true rfl) (Nat.le_of_ble_eq_true rfl) dL_law_390 (fun _ => xB_set _ _ _ _ _ _) rfl (fun u H locs hw => ?_)
      refine lv_aload_n hx hb dL_law_393 rfl (lv_at hl 2 rfl) ?_
      refine lv_aload_n hx hb dL_law_394 rfl (lv_at hl 0 rfl) ?_
      refine lv_iload_n hx hb dL_law_395 rfl (lv_at hl 3 rfl) ?_
      refine lv_iconst (v := 1) hx hb dL_law_396 rfl ?_
      refine lv_iadd hx hb dL_law_397 ?_
      refine l_sld E hw hX hbl hbA (i + 1) (nI_add i 1) (by omega) hL dL_law_398 ?_
      refine lc_callV (is := [19]) (As := [.int (xs (i + 1))]) (rest := [.int r]) (st1 := [.int r, .int r]) (bs' := fun v => xB G ax ad (Fx u) ++ [mY G am (Fy v)]) E hS cm vw_L_52 hw [19] rfl 19 0 rfl rfl rfl rfl (mY_pick _ _ _ _ _) (by decide) (fun _ => mY_adr _ _ _ _) hl.1 rfl rfl (Nat.le_of_ble_eq_true rfl) ⟨Nat.le_of_ble_eq_true rfl, Nat.le_of_ble_eq_true rfl⟩ (Nat.le_of_ble_eq_true rfl) (Nat.le_of_ble_eq_true rfl) dL_law_399 (fun _ => mY_set _ _ _ _ _ _) rfl (fun v H locs hw => ?_)
      refine lv_icmp_eq (tgt := 1025) hx hb dL_law_402 rfl (fun _ => ?_) (fun cz => absurd rfl cz)
      exact nxt _ _ (hR u v) H locs hw
    by_cases co_9 : op = (9 : Int32)
    · refine lv_tableIn (off := 374) (tgt := 407) hx hb dL_law_33 (by rw [co_9]; decide) (by rw [co_9]; decide) (by rw [co_9]; rfl) rfl ?_
      obtain ⟨r, σ, τ, Fx, Fy, cx, cm, hR⟩ := h_undo G ax ad am X Y hrel 
      refine lv_aload_n hx hb dL_law_407 rfl (lv_at hl 1 rfl) ?_
      refine lc_callV (is := is19) (As := []) (rest := []) (st1 := [.int r]) (bs' := fun u => xB G ax ad (Fx u) ++ [mY G am Y]) E hS cx vw_L_53 hw is19 rfl 0 0 rfl rfl rfl rfl (xB_pick _ _ _ _ _) (by decide) (fun _ => xB_adr _ _ _ _ _) hl.1 rfl rfl (Nat.le_of_ble_eq_true rfl) ⟨Nat.le_of_ble_eq_true rfl, Nat.le_of_ble_eq_true rfl⟩ (Nat.le_of_ble_eq_true rfl) (Nat.le_of_ble_eq_true rfl) dL_law_408 (fun _ => xB_set _ _ _ _ _ _) rfl (fun u H locs hw => ?_)
      refine lv_aload_n hx hb dL_law_411 rfl (lv_at hl 2 rfl) ?_
      refine lc_callV (is := [19]) (As := []) (rest := [.int r]) (st1 := [.int r, .int r]) (bs' := fun v => xB G ax ad (Fx u) ++ [mY G am (Fy v)]) E hS cm vw_L_56 hw [19] rfl 19 0 rfl rfl rfl rfl (mY_pick _ _ _ _ _) (by decide) (fun _ => mY_adr _ _ _ _) hl.1 rfl rfl (Nat.le_of_ble_eq_true rfl) ⟨Nat.le_of_ble_eq_true rfl, Nat.le_of_ble_eq_true rfl⟩ (Nat.le_of_ble_eq_true rfl) (Nat.le_of_ble_eq_true rfl) dL_law_412 (fun _ => mY_set _ _ _ _ _ _) rfl (fun v H locs hw => ?_)
      refine lv_icmp_eq (tgt := 1025) hx hb dL_law_415 rfl (fun _ => ?_) (fun cz => absurd rfl cz)
      exact nxt _ _ (hR u v) H locs hw
    by_cases co_10 : op = (10 : Int32)
    · refine lv_tableIn (off := 387) (tgt := 420) hx hb dL_law_33 (by rw [co_10]; decide) (by rw [co_10]; decide) (by rw [co_10]; rfl) rfl ?_
      obtain ⟨r, σ, τ, Fx, Fy, cx, cm, hR⟩ := h_of G ax ad am X Y hrel (xs (i + 1)) (xs (i + 2))
      refine lv_aload_n hx hb dL_law_420 rfl (lv_at hl 1 rfl) ?_
      refine lv_aload_n hx hb dL_law_421 rfl (lv_at hl 0 rfl) ?_
      refine lv_iload_n hx hb dL_law_422 rfl (lv_at hl 3 rfl) ?_
      refine lv_iconst (v := 1) hx hb dL_law_423 rfl ?_
      refine lv_iadd hx hb dL_law_424 ?_
      refine l_sld E hw hX hbl hbA (i + 1) (nI_add i 1) (by omega) hL dL_law_425 ?_
      refine lv_aload_n hx hb dL_law_426 rfl (lv_at hl 0 rfl) ?_
      refine lv_iload_n hx hb dL_law_427 rfl (lv_at hl 3 rfl) ?_
      refine lv_iconst (v := 2) hx hb dL_law_428 rfl ?_
      refine lv_iadd hx hb dL_law_429 ?_
      refine l_sld E hw hX hbl hbA (i + 2) (nI_add i 2) (by omega) hL dL_law_430 ?_
      refine lc_callV (is := is19) (As := [.int (xs (i + 1)), .int (xs (i + 2))]) (rest := []) (st1 := [.int r]) (bs' := fun u => xB G ax ad (Fx u) ++ [mY G am Y]) E hS cx vw_L_57 hw is19 rfl 0 0 rfl rfl rfl rfl (xB_pick _ _ _ _ _) (by decide) (fun _ => xB_adr _ _ _ _ _) hl.1 rfl rfl (Nat.le_of_ble_eq_true rfl) ⟨Nat.le_of_ble_eq_true rfl, Nat.le_of_ble_eq_true rfl⟩ (Nat.le_of_ble_eq_true rfl) (Nat.le_of_ble_eq_true rfl) dL_law_431 (fun _ => xB_set _ _ _ _ _ _) rfl (fun u H locs hw => ?_)
      refine lv_aload_n hx hb dL_law_434 rfl (lv_at hl 2 rfl) ?_
      refine lv_aload_n hx hb dL_law_435 rfl (lv_at hl 0 rfl) ?_
      refine lv_iload_n hx hb dL_law_436 rfl (lv_at hl 3 rfl) ?_
      refine lv_iconst (v := 1) hx hb dL_law_437 rfl ?_
      refine lv_iadd hx hb dL_law_438 ?_
      refine l_sld E hw hX hbl hbA (i + 1) (nI_add i 1) (by omega) hL dL_law_439 ?_
      refine lv_aload_n hx hb dL_law_440 rfl (lv_at hl 0 rfl) ?_
      refine lv_iload_n hx hb dL_law_441 rfl (lv_at hl 3 rfl) ?_
      refine lv_iconst (v := 2) hx hb dL_law_442 rfl ?_
      refine lv_iadd hx hb dL_law_443 ?_
      refine l_sld E hw hX hbl hbA (i + 2) (nI_add i 2) (by omega) hL dL_law_444 ?_
      refine lc_callV (is := [19]) (As := [.int (xs (i + 1)), .int (xs (i + 2))]) (rest := [.int r]) (st1 := [.int r, .int r]) (bs' := fun v => xB G ax ad (Fx u) ++ [mY G am (Fy v)]) E hS cm vw_L_60 hw [19] rfl 19 0 rfl rfl rfl rfl (mY_pick _ _ _ _ _) (by decide) (fun _ => mY_adr _ _ _ _) hl.1 rfl rfl (Nat.le_of_ble_eq_true rfl) ⟨Nat.le_of_ble_eq_true rfl, Nat.le_of_ble_eq_true rfl⟩ (Nat.le_of_ble_eq_true rfl) (Nat.le_of_ble_eq_true rfl) dL_law_445 (fun _ => mY_set _ _ _ _ _ _) rfl (fun v H locs hw => ?_)
      refine lv_icmp_eq (tgt := 1025) hx hb dL_law_448 rfl (fun _ => ?_) (fun cz => absurd rfl cz)
      exact nxt _ _ (hR u v) H locs hw
    by_cases co_11 : op = (11 : Int32)
    · refine lv_tableIn (off := 420) (tgt := 453) hx hb dL_law_33 (by rw [co_11]; decide) (by rw [co_11]; decide) (by rw [co_11]; rfl) rfl ?_
      obtain ⟨r, σ, τ, Fx, Fy, cx, cm, hR⟩ := h_now G ax ad am X Y hrel (xs (i + 1)) (xs (i + 2))
      refine lv_aload_n hx hb dL_law_453 rfl (lv_at hl 1 rfl) ?_
      refine lv_aload_n hx hb dL_law_454 rfl (lv_at hl 0 rfl) ?_
      refine lv_iload_n hx hb dL_law_455 rfl (lv_at hl 3 rfl) ?_
      refine lv_iconst (v := 1) hx hb dL_law_456 rfl ?_
      refine lv_iadd hx hb dL_law_457 ?_
      refine l_sld E hw hX hbl hbA (i + 1) (nI_add i 1) (by omega) hL dL_law_458 ?_
      refine lv_aload_n hx hb dL_law_459 rfl (lv_at hl 0 rfl) ?_
      refine lv_iload_n hx hb dL_law_460 rfl (lv_at hl 3 rfl) ?_
      refine lv_iconst (v := 2) hx hb dL_law_461 rfl ?_
      refine lv_iadd hx hb dL_law_462 ?_
      refine l_sld E hw hX hbl hbA (i + 2) (nI_add i 2) (by omega) hL dL_law_463 ?_
      refine lc_callV (is := is19) (As := [.int (xs (i + 1)), .int (xs (i + 2))]) (rest := []) (st1 := [.int r]) (bs' := fun u => xB G ax ad (Fx u) ++ [mY G am Y]) E hS cx vw_L_61 hw is19 rfl 0 0 rfl rfl rfl rfl (xB_pick _ _ _ _ _) (by decide) (fun _ => xB_adr _ _ _ _ _) hl.1 rfl rfl (Nat.le_of_ble_eq_true rfl) ⟨Nat.le_of_ble_eq_true rfl, Nat.le_of_ble_eq_true rfl⟩ (Nat.le_of_ble_eq_true rfl) (Nat.le_of_ble_eq_true rfl) dL_law_464 (fun _ => xB_set _ _ _ _ _ _) rfl (fun u H locs hw => ?_)
      refine lv_aload_n hx hb dL_law_467 rfl (lv_at hl 2 rfl) ?_
      refine lv_aload_n hx hb dL_law_468 rfl (lv_at hl 0 rfl) ?_
      refine lv_iload_n hx hb dL_law_469 rfl (lv_at hl 3 rfl) ?_
      refine lv_iconst (v := 1) hx hb dL_law_470 rfl ?_
      refine lv_iadd hx hb dL_law_471 ?_
      refine l_sld E hw hX hbl hbA (i + 1) (nI_add i 1) (by omega) hL dL_law_472 ?_
      refine lv_aload_n hx hb dL_law_473 rfl (lv_at hl 0 rfl) ?_
      refine lv_iload_n hx hb dL_law_474 rfl (lv_at hl 3 rfl) ?_
      refine lv_iconst (v := 2) hx hb dL_law_475 rfl ?_
      refine lv_iadd hx hb dL_law_476 ?_
      refine l_sld E hw hX hbl hbA (i + 2) (nI_add i 2) (by omega) hL dL_law_477 ?_
      refine lc_callV (is := [19]) (As := [.int (xs (i + 1)), .int (xs (i + 2))]) (rest := [.int r]) (st1 := [.int r, .int r]) (bs' := fun v => xB G ax ad (Fx u) ++ [mY G am (Fy v)]) E hS cm vw_L_64 hw [19] rfl 19 0 rfl rfl rfl rfl (mY_pick _ _ _ _ _) (by decide) (fun _ => mY_adr _ _ _ _) hl.1 rfl rfl (Nat.le_of_ble_eq_true rfl) ⟨Nat.le_of_ble_eq_true rfl, Nat.le_of_ble_eq_true rfl⟩ (Nat.le_of_ble_eq_true rfl) (Nat.le_of_ble_eq_true rfl) dL_law_478 (fun _ => mY_set _ _ _ _ _ _) rfl (fun v H locs hw => ?_)
      refine lv_icmp_eq (tgt := 1025) hx hb dL_law_481 rfl (fun _ => ?_) (fun cz => absurd rfl cz)
      exact nxt _ _ (hR u v) H locs hw
    by_cases co_12 : op = (12 : Int32)
    · refine lv_tableIn (off := 453) (tgt := 486) hx hb dL_law_33 (by rw [co_12]; decide) (by rw [co_12]; decide) (by rw [co_12]; rfl) rfl ?_
      obtain ⟨r, σ, τ, Fx, Fy, cx, cm, hR⟩ := h_then G ax ad am X Y hrel (xs (i + 1)) (xs (i + 2))
      refine lv_aload_n hx hb dL_law_486 rfl (lv_at hl 1 rfl) ?_
      refine lv_aload_n hx hb dL_law_487 rfl (lv_at hl 0 rfl) ?_
      refine lv_iload_n hx hb dL_law_488 rfl (lv_at hl 3 rfl) ?_
      refine lv_iconst (v := 1) hx hb dL_law_489 rfl ?_
      refine lv_iadd hx hb dL_law_490 ?_
      refine l_sld E hw hX hbl hbA (i + 1) (nI_add i 1) (by omega) hL dL_law_491 ?_
      refine lv_aload_n hx hb dL_law_492 rfl (lv_at hl 0 rfl) ?_
      refine lv_iload_n hx hb dL_law_493 rfl (lv_at hl 3 rfl) ?_
      refine lv_iconst (v := 2) hx hb dL_law_494 rfl ?_
      refine lv_iadd hx hb dL_law_495 ?_
      refine l_sld E hw hX hbl hbA (i + 2) (nI_add i 2) (by omega) hL dL_law_496 ?_
      refine lc_callV (is := is19) (As := [.int (xs (i + 1)), .int (xs (i + 2))]) (rest := []) (st1 := [.int r]) (bs' := fun u => xB G ax ad (Fx u) ++ [mY G am Y]) E hS cx vw_L_65 hw is19 rfl 0 0 rfl rfl rfl rfl (xB_pick _ _ _ _ _) (by decide) (fun _ => xB_adr _ _ _ _ _) hl.1 rfl rfl (Nat.le_of_ble_eq_true rfl) ⟨Nat.le_of_ble_eq_true rfl, Nat.le_of_ble_eq_true rfl⟩ (Nat.le_of_ble_eq_true rfl) (Nat.le_of_ble_eq_true rfl) dL_law_497 (fun _ => xB_set _ _ _ _ _ _) rfl (fun u H locs hw => ?_)
      refine lv_aload_n hx hb dL_law_500 rfl (lv_at hl 2 rfl) ?_
      refine lv_aload_n hx hb dL_law_501 rfl (lv_at hl 0 rfl) ?_
      refine lv_iload_n hx hb dL_law_502 rfl (lv_at hl 3 rfl) ?_
      refine lv_iconst (v := 1) hx hb dL_law_503 rfl ?_
      refine lv_iadd hx hb dL_law_504 ?_
      refine l_sld E hw hX hbl hbA (i + 1) (nI_add i 1) (by omega) hL dL_law_505 ?_
      refine lv_aload_n hx hb dL_law_506 rfl (lv_at hl 0 rfl) ?_
      refine lv_iload_n hx hb dL_law_507 rfl (lv_at hl 3 rfl) ?_
      refine lv_iconst (v := 2) hx hb dL_law_508 rfl ?_
      refine lv_iadd hx hb dL_law_509 ?_
      refine l_sld E hw hX hbl hbA (i + 2) (nI_add i 2) (by omega) hL dL_law_510 ?_
      refine lc_callV (is := [19]) (As := [.int (xs (i + 1)), .int (xs (i + 2))]) (rest := [.int r]) (st1 := [.int r, .int r]) (bs' := fun v => xB G ax ad (Fx u) ++ [mY G am (Fy v)]) E hS cm vw_L_68 hw [19] rfl 19 0 rfl rfl rfl rfl (mY_pick _ _ _ _ _) (by decide) (fun _ => mY_adr _ _ _ _) hl.1 rfl rfl (Nat.le_of_ble_eq_true rfl) ⟨Nat.le_of_ble_eq_true rfl, Nat.le_of_ble_eq_true rfl⟩ (Nat.le_of_ble_eq_true rfl) (Nat.le_of_ble_eq_true rfl) dL_law_511 (fun _ => mY_set _ _ _ _ _ _) rfl (fun v H locs hw => ?_)
      refine lv_icmp_eq (tgt := 1025) hx hb dL_law_514 rfl (fun _ => ?_) (fun cz => absurd rfl cz)
      exact nxt _ _ (hR u v) H locs hw
    by_cases co_13 : op = (13 : Int32)
    · refine lv_tableIn (off := 486) (tgt := 519) hx hb dL_law_33 (by rw [co_13]; decide) (by rw [co_13]; decide) (by rw [co_13]; rfl) rfl ?_
      obtain ⟨r, σ, τ, Fx, Fy, cx, cm, hR⟩ := h_quiet G ax ad am X Y hrel 
      refine lv_aload_n hx hb dL_law_519 rfl (lv_at hl 1 rfl) ?_
      refine lc_callV (is := is19) (As := []) (rest := []) (st1 := [.int r]) (bs' := fun u => xB G ax ad (Fx u) ++ [mY G am Y]) E hS cx vw_L_69 hw is19 rfl 0 0 rfl rfl rfl rfl (xB_pick _ _ _ _ _) (by decide) (fun _ => xB_adr _ _ _ _ _) hl.1 rfl rfl (Nat.le_of_ble_eq_true rfl) ⟨Nat.le_of_ble_eq_true rfl, Nat.le_of_ble_eq_true rfl⟩ (Nat.le_of_ble_eq_true rfl) (Nat.le_of_ble_eq_true rfl) dL_law_520 (fun _ => xB_set _ _ _ _ _ _) rfl (fun u H locs hw => ?_)
      refine lv_aload_n hx hb dL_law_523 rfl (lv_at hl 2 rfl) ?_
      refine lc_callV (is := [19]) (As := []) (rest := [.int r]) (st1 := [.int r, .int r]) (bs' := fun v => xB G ax ad (Fx u) ++ [mY G am (Fy v)]) E hS cm vw_L_72 hw [19] rfl 19 0 rfl rfl rfl rfl (mY_pick _ _ _ _ _) (by decide) (fun _ => mY_adr _ _ _ _) hl.1 rfl rfl (Nat.le_of_ble_eq_true rfl) ⟨Nat.le_of_ble_eq_true rfl, Nat.le_of_ble_eq_true rfl⟩ (Nat.le_of_ble_eq_true rfl) (Nat.le_of_ble_eq_true rfl) dL_law_524 (fun _ => mY_set _ _ _ _ _ _) rfl (fun v H locs hw => ?_)
      refine lv_icmp_eq (tgt := 1025) hx hb dL_law_527 rfl (fun _ => ?_) (fun cz => absurd rfl cz)
      exact nxt _ _ (hR u v) H locs hw
    by_cases co_14 : op = (14 : Int32)
    · refine lv_tableIn (off := 499) (tgt := 532) hx hb dL_law_33 (by rw [co_14]; decide) (by rw [co_14]; decide) (by rw [co_14]; rfl) rfl ?_
      obtain ⟨r, σ, τ, Fx, Fy, cx, cm, hR⟩ := h_stand G ax ad am X Y hrel (xs (i + 1)) (xs (i + 2))
      refine lv_aload_n hx hb dL_law_532 rfl (lv_at hl 1 rfl) ?_
      refine lv_aload_n hx hb dL_law_533 rfl (lv_at hl 0 rfl) ?_
      refine lv_iload_n hx hb dL_law_534 rfl (lv_at hl 3 rfl) ?_
      refine lv_iconst (v := 1) hx hb dL_law_535 rfl ?_
      refine lv_iadd hx hb dL_law_536 ?_
      refine l_sld E hw hX hbl hbA (i + 1) (nI_add i 1) (by omega) hL dL_law_537 ?_
      refine lv_aload_n hx hb dL_law_538 rfl (lv_at hl 0 rfl) ?_
      refine lv_iload_n hx hb dL_law_539 rfl (lv_at hl 3 rfl) ?_
      refine lv_iconst (v := 2) hx hb dL_law_540 rfl ?_
      refine lv_iadd hx hb dL_law_541 ?_
      refine l_sld E hw hX hbl hbA (i + 2) (nI_add i 2) (by omega) hL dL_law_542 ?_
      refine lc_callV (is := is19) (As := [.int (xs (i + 1)), .int (xs (i + 2))]) (rest := []) (st1 := [.int r]) (bs' := fun u => xB G ax ad (Fx u) ++ [mY G am Y]) E hS cx vw_L_73 hw is19 rfl 0 0 rfl rfl rfl rfl (xB_pick _ _ _ _ _) (by decide) (fun _ => xB_adr _ _ _ _ _) hl.1 rfl rfl (Nat.le_of_ble_eq_true rfl) ⟨Nat.le_of_ble_eq_true rfl, Nat.le_of_ble_eq_true rfl⟩ (Nat.le_of_ble_eq_true rfl) (Nat.le_of_ble_eq_true rfl) dL_law_543 (fun _ => xB_set _ _ _ _ _ _) rfl (fun u H locs hw => ?_)
      refine lv_aload_n hx hb dL_law_546 rfl (lv_at hl 2 rfl) ?_
      refine lv_aload_n hx hb dL_law_547 rfl (lv_at hl 0 rfl) ?_
      refine lv_iload_n hx hb dL_law_548 rfl (lv_at hl 3 rfl) ?_
      refine lv_iconst (v := 1) hx hb dL_law_549 rfl ?_
      refine lv_iadd hx hb dL_law_550 ?_
      refine l_sld E hw hX hbl hbA (i + 1) (nI_add i 1) (by omega) hL dL_law_551 ?_
      refine lv_aload_n hx hb dL_law_552 rfl (lv_at hl 0 rfl) ?_
      refine lv_iload_n hx hb dL_law_553 rfl (lv_at hl 3 rfl) ?_
      refine lv_iconst (v := 2) hx hb dL_law_554 rfl ?_
      refine lv_iadd hx hb dL_law_555 ?_
      refine l_sld E hw hX hbl hbA (i + 2) (nI_add i 2) (by omega) hL dL_law_556 ?_
      refine lc_callV (is := [19]) (As := [.int (xs (i + 1)), .int (xs (i + 2))]) (rest := [.int r]) (st1 := [.int r, .int r]) (bs' := fun v => xB G ax ad (Fx u) ++ [mY G am (Fy v)]) E hS cm vw_L_76 hw [19] rfl 19 0 rfl rfl rfl rfl (mY_pick _ _ _ _ _) (by decide) (fun _ => mY_adr _ _ _ _) hl.1 rfl rfl (Nat.le_of_ble_eq_true rfl) ⟨Nat.le_of_ble_eq_true rfl, Nat.le_of_ble_eq_true rfl⟩ (Nat.le_of_ble_eq_true rfl) (Nat.le_of_ble_eq_true rfl) dL_law_557 (fun _ => mY_set _ _ _ _ _ _) rfl (fun v H locs hw => ?_)
      refine lv_icmp_eq (tgt := 1025) hx hb dL_law_560 rfl (fun _ => ?_) (fun cz => absurd rfl cz)
      exact nxt _ _ (hR u v) H locs hw
    by_cases co_15 : op = (15 : Int32)
    · refine lv_tableIn (off := 532) (tgt := 565) hx hb dL_law_33 (by rw [co_15]; decide) (by rw [co_15]; decide) (by rw [co_15]; rfl) rfl ?_
      obtain ⟨r, σ, τ, Fx, Fy, cx, cm, hR⟩ := h_helps G ax ad am X Y hrel 
      refine lv_aload_n hx hb dL_law_565 rfl (lv_at hl 1 rfl) ?_
      refine lc_callV (is := is19) (As := []) (rest := []) (st1 := [.int r]) (bs' := fun u => xB G ax ad (Fx u) ++ [mY G am Y]) E hS cx vw_L_77 hw is19 rfl 0 0 rfl rfl rfl rfl (xB_pick _ _ _ _ _) (by decide) (fun _ => xB_adr _ _ _ _ _) hl.1 rfl rfl (Nat.le_of_ble_eq_true rfl) ⟨Nat.le_of_ble_eq_true rfl, Nat.le_of_ble_eq_true rfl⟩ (Nat.le_of_ble_eq_true rfl) (Nat.le_of_ble_eq_true rfl) dL_law_566 (fun _ => xB_set _ _ _ _ _ _) rfl (fun u H locs hw => ?_)
      refine lv_aload_n hx hb dL_law_569 rfl (lv_at hl 2 rfl) ?_
      refine lc_callV (is := [19]) (As := []) (rest := [.int r]) (st1 := [.int r, .int r]) (bs' := fun v => xB G ax ad (Fx u) ++ [mY G am (Fy v)]) E hS cm vw_L_80 hw [19] rfl 19 0 rfl rfl rfl rfl (mY_pick _ _ _ _ _) (by decide) (fun _ => mY_adr _ _ _ _) hl.1 rfl rfl (Nat.le_of_ble_eq_true rfl) ⟨Nat.le_of_ble_eq_true rfl, Nat.le_of_ble_eq_true rfl⟩ (Nat.le_of_ble_eq_true rfl) (Nat.le_of_ble_eq_true rfl) dL_law_570 (fun _ => mY_set _ _ _ _ _ _) rfl (fun v H locs hw => ?_)
      refine lv_icmp_eq (tgt := 1025) hx hb dL_law_573 rfl (fun _ => ?_) (fun cz => absurd rfl cz)
      exact nxt _ _ (hR u v) H locs hw
    by_cases co_16 : op = (16 : Int32)
    · refine lv_tableIn (off := 545) (tgt := 578) hx hb dL_law_33 (by rw [co_16]; decide) (by rw [co_16]; decide) (by rw [co_16]; rfl) rfl ?_
      obtain ⟨r, σ, τ, Fx, Fy, cx, cm, hR⟩ := h_seated G ax ad am X Y hrel (xs (i + 1))
      refine lv_aload_n hx hb dL_law_578 rfl (lv_at hl 1 rfl) ?_
      refine lv_aload_n hx hb dL_law_579 rfl (lv_at hl 0 rfl) ?_
      refine lv_iload_n hx hb dL_law_580 rfl (lv_at hl 3 rfl) ?_
      refine lv_iconst (v := 1) hx hb dL_law_581 rfl ?_
      refine lv_iadd hx hb dL_law_582 ?_
      refine l_sld E hw hX hbl hbA (i + 1) (nI_add i 1) (by omega) hL dL_law_583 ?_
      refine lc_callV (is := is19) (As := [.int (xs (i + 1))]) (rest := []) (st1 := [.int r]) (bs' := fun u => xB G ax ad (Fx u) ++ [mY G am Y]) E hS cx vw_L_81 hw is19 rfl 0 0 rfl rfl rfl rfl (xB_pick _ _ _ _ _) (by decide) (fun _ => xB_adr _ _ _ _ _) hl.1 rfl rfl (Nat.le_of_ble_eq_true rfl) ⟨Nat.le_of_ble_eq_true rfl, Nat.le_of_ble_eq_true rfl⟩ (Nat.le_of_ble_eq_true rfl) (Nat.le_of_ble_eq_true rfl) dL_law_584 (fun _ => xB_set _ _ _ _ _ _) rfl (fun u H locs hw => ?_)
      refine lv_aload_n hx hb dL_law_587 rfl (lv_at hl 2 rfl) ?_
      refine lv_aload_n hx hb dL_law_588 rfl (lv_at hl 0 rfl) ?_
      refine lv_iload_n hx hb dL_law_589 rfl (lv_at hl 3 rfl) ?_
      refine lv_iconst (v := 1) hx hb dL_law_590 rfl ?_
      refine lv_iadd hx hb dL_law_591 ?_
      refine l_sld E hw hX hbl hbA (i + 1) (nI_add i 1) (by omega) hL dL_law_592 ?_
      refine lc_callV (is := [19]) (As := [.int (xs (i + 1))]) (rest := [.int r]) (st1 := [.int r, .int r]) (bs' := fun v => xB G ax ad (Fx u) ++ [mY G am (Fy v)]) E hS cm vw_L_84 hw [19] rfl 19 0 rfl rfl rfl rfl (mY_pick _ _ _ _ _) (by decide) (fun _ => mY_adr _ _ _ _) hl.1 rfl rfl (Nat.le_of_ble_eq_true rfl) ⟨Nat.le_of_ble_eq_true rfl, Nat.le_of_ble_eq_true rfl⟩ (Nat.le_of_ble_eq_true rfl) (Nat.le_of_ble_eq_true rfl) dL_law_593 (fun _ => mY_set _ _ _ _ _ _) rfl (fun v H locs hw => ?_)
      refine lv_icmp_eq (tgt := 1025) hx hb dL_law_596 rfl (fun _ => ?_) (fun cz => absurd rfl cz)
      exact nxt _ _ (hR u v) H locs hw
    by_cases co_17 : op = (17 : Int32)
    · refine lv_tableIn (off := 568) (tgt := 601) hx hb dL_law_33 (by rw [co_17]; decide) (by rw [co_17]; decide) (by rw [co_17]; rfl) rfl ?_
      obtain ⟨r, σ, τ, Fx, Fy, cx, cm, hR⟩ := h_words G ax ad am X Y hrel (xs (i + 1))
      refine lv_aload_n hx hb dL_law_601 rfl (lv_at hl 1 rfl) ?_
      refine lv_aload_n hx hb dL_law_602 rfl (lv_at hl 0 rfl) ?_
      refine lv_iload_n hx hb dL_law_603 rfl (lv_at hl 3 rfl) ?_
      refine lv_iconst (v := 1) hx hb dL_law_604 rfl ?_
      refine lv_iadd hx hb dL_law_605 ?_
      refine l_sld E hw hX hbl hbA (i + 1) (nI_add i 1) (by omega) hL dL_law_606 ?_
      refine lc_callV (is := is19) (As := [.int (xs (i + 1))]) (rest := []) (st1 := [.int r]) (bs' := fun u => xB G ax ad (Fx u) ++ [mY G am Y]) E hS cx vw_L_85 hw is19 rfl 0 0 rfl rfl rfl rfl (xB_pick _ _ _ _ _) (by decide) (fun _ => xB_adr _ _ _ _ _) hl.1 rfl rfl (Nat.le_of_ble_eq_true rfl) ⟨Nat.le_of_ble_eq_true rfl, Nat.le_of_ble_eq_true rfl⟩ (Nat.le_of_ble_eq_true rfl) (Nat.le_of_ble_eq_true rfl) dL_law_607 (fun _ => xB_set _ _ _ _ _ _) rfl (fun u H locs hw => ?_)
      refine lv_aload_n hx hb dL_law_610 rfl (lv_at hl 2 rfl) ?_
      refine lv_aload_n hx hb dL_law_611 rfl (lv_at hl 0 rfl) ?_
      refine lv_iload_n hx hb dL_law_612 rfl (lv_at hl 3 rfl) ?_
      refine lv_iconst (v := 1) hx hb dL_law_613 rfl ?_
      refine lv_iadd hx hb dL_law_614 ?_
      refine l_sld E hw hX hbl hbA (i + 1) (nI_add i 1) (by omega) hL dL_law_615 ?_
      refine lc_callV (is := [19]) (As := [.int (xs (i + 1))]) (rest := [.int r]) (st1 := [.int r, .int r]) (bs' := fun v => xB G ax ad (Fx u) ++ [mY G am (Fy v)]) E hS cm vw_L_88 hw [19] rfl 19 0 rfl rfl rfl rfl (mY_pick _ _ _ _ _) (by decide) (fun _ => mY_adr _ _ _ _) hl.1 rfl rfl (Nat.le_of_ble_eq_true rfl) ⟨Nat.le_of_ble_eq_true rfl, Nat.le_of_ble_eq_true rfl⟩ (Nat.le_of_ble_eq_true rfl) (Nat.le_of_ble_eq_true rfl) dL_law_616 (fun _ => mY_set _ _ _ _ _ _) rfl (fun v H locs hw => ?_)
      refine lv_icmp_eq (tgt := 1025) hx hb dL_law_619 rfl (fun _ => ?_) (fun cz => absurd rfl cz)
      exact nxt _ _ (hR u v) H locs hw
    by_cases co_18 : op = (18 : Int32)
    · refine lv_tableIn (off := 591) (tgt := 624) hx hb dL_law_33 (by rw [co_18]; decide) (by rw [co_18]; decide) (by rw [co_18]; rfl) rfl ?_
      obtain ⟨r, σ, τ, Fx, Fy, cx, cm, hR⟩ := h_say G ax ad am X Y hrel 
      refine lv_aload_n hx hb dL_law_624 rfl (lv_at hl 1 rfl) ?_
      refine lc_callV (is := is19) (As := []) (rest := []) (st1 := [.int r]) (bs' := fun u => xB G ax ad (Fx u) ++ [mY G am Y]) E hS cx vw_L_89 hw is19 rfl 0 0 rfl rfl rfl rfl (xB_pick _ _ _ _ _) (by decide) (fun _ => xB_adr _ _ _ _ _) hl.1 rfl rfl (Nat.le_of_ble_eq_true rfl) ⟨Nat.le_of_ble_eq_true rfl, Nat.le_of_ble_eq_true rfl⟩ (Nat.le_of_ble_eq_true rfl) (Nat.le_of_ble_eq_true rfl) dL_law_625 (fun _ => xB_set _ _ _ _ _ _) rfl (fun u H locs hw => ?_)
      refine lv_aload_n hx hb dL_law_628 rfl (lv_at hl 2 rfl) ?_
      refine lc_callV (is := [19]) (As := []) (rest := [.int r]) (st1 := [.int r, .int r]) (bs' := fun v => xB G ax ad (Fx u) ++ [mY G am (Fy v)]) E hS cm vw_L_92 hw [19] rfl 19 0 rfl rfl rfl rfl (mY_pick _ _ _ _ _) (by decide) (fun _ => mY_adr _ _ _ _) hl.1 rfl rfl (Nat.le_of_ble_eq_true rfl) ⟨Nat.le_of_ble_eq_true rfl, Nat.le_of_ble_eq_true rfl⟩ (Nat.le_of_ble_eq_true rfl) (Nat.le_of_ble_eq_true rfl) dL_law_629 (fun _ => mY_set _ _ _ _ _ _) rfl (fun v H locs hw => ?_)
      refine lv_icmp_eq (tgt := 1025) hx hb dL_law_632 rfl (fun _ => ?_) (fun cz => absurd rfl cz)
      exact nxt _ _ (hR u v) H locs hw
    by_cases co_19 : op = (19 : Int32)
    · refine lv_tableIn (off := 604) (tgt := 637) hx hb dL_law_33 (by rw [co_19]; decide) (by rw [co_19]; decide) (by rw [co_19]; rfl) rfl ?_
      obtain ⟨r, σ, τ, Fx, Fy, cx, cm, hR⟩ := h_note G ax ad am X Y hrel (xs (i + 1)) (xs (i + 2)) (xs (i + 3)) (xs (i + 4)) (xs (i + 5)) (xs (i + 6)) (xs (i + 7))
      refine lv_aload_n hx hb dL_law_637 rfl (lv_at hl 1 rfl) ?_
      refine lv_aload_n hx hb dL_law_638 rfl (lv_at hl 0 rfl) ?_
      refine lv_iload_n hx hb dL_law_639 rfl (lv_at hl 3 rfl) ?_
      refine lv_iconst (v := 1) hx hb dL_law_640 rfl ?_
      refine lv_iadd hx hb dL_law_641 ?_
      refine l_sld E hw hX hbl hbA (i + 1) (nI_add i 1) (by omega) hL dL_law_642 ?_
      refine lv_aload_n hx hb dL_law_643 rfl (lv_at hl 0 rfl) ?_
      refine lv_iload_n hx hb dL_law_644 rfl (lv_at hl 3 rfl) ?_
      refine lv_iconst (v := 2) hx hb dL_law_645 rfl ?_
      refine lv_iadd hx hb dL_law_646 ?_
      refine l_sld E hw hX hbl hbA (i + 2) (nI_add i 2) (by omega) hL dL_law_647 ?_
      refine lv_aload_n hx hb dL_law_648 rfl (lv_at hl 0 rfl) ?_
      refine lv_iload_n hx hb dL_law_649 rfl (lv_at hl 3 rfl) ?_
      refine lv_iconst (v := 3) hx hb dL_law_650 rfl ?_
      refine lv_iadd hx hb dL_law_651 ?_
      refine l_sld E hw hX hbl hbA (i + 3) (nI_add i 3) (by omega) hL dL_law_652 ?_
      refine lv_aload_n hx hb dL_law_653 rfl (lv_at hl 0 rfl) ?_
      refine lv_iload_n hx hb dL_law_654 rfl (lv_at hl 3 rfl) ?_
      refine lv_iconst (v := 4) hx hb dL_law_655 rfl ?_
      refine lv_iadd hx hb dL_law_656 ?_
      refine l_sld E hw hX hbl hbA (i + 4) (nI_add i 4) (by omega) hL dL_law_657 ?_
      refine lv_aload_n hx hb dL_law_658 rfl (lv_at hl 0 rfl) ?_
      refine lv_iload_n hx hb dL_law_659 rfl (lv_at hl 3 rfl) ?_
      refine lv_iconst (v := 5) hx hb dL_law_660 rfl ?_
      refine lv_iadd hx hb dL_law_661 ?_
      refine l_sld E hw hX hbl hbA (i + 5) (nI_add i 5) (by omega) hL dL_law_662 ?_
      refine lv_aload_n hx hb dL_law_663 rfl (lv_at hl 0 rfl) ?_
      refine lv_iload_n hx hb dL_law_664 rfl (lv_at hl 3 rfl) ?_
      refine lv_bipush (v := 6) hx hb dL_law_665 rfl ?_
      refine lv_iadd hx hb dL_law_667 ?_
      refine l_sld E hw hX hbl hbA (i + 6) (nI_add i 6) (by omega) hL dL_law_668 ?_
      refine lv_aload_n hx hb dL_law_669 rfl (lv_at hl 0 rfl) ?_
      refine lv_iload_n hx hb dL_law_670 rfl (lv_at hl 3 rfl) ?_
      refine lv_bipush (v := 7) hx hb dL_law_671 rfl ?_
      refine lv_iadd hx hb dL_law_673 ?_
      refine l_sld E hw hX hbl hbA (i + 7) (nI_add i 7) (by omega) hL dL_law_674 ?_
      refine lc_callV (is := is19) (As := [.int (xs (i + 1)), .int (xs (i + 2)), .int (xs (i + 3)), .int (xs (i + 4)), .int (xs (i + 5)), .int (xs (i + 6)), .int (xs (i + 7))]) (rest := []) (st1 := [.int r]) (bs' := fun u => xB G ax ad (Fx u) ++ [mY G am Y]) E hS cx vw_L_93 hw is19 rfl 0 0 rfl rfl rfl rfl (xB_pick _ _ _ _ _) (by decide) (fun _ => xB_adr _ _ _ _ _) hl.1 rfl rfl (Nat.le_of_ble_eq_true rfl) ⟨Nat.le_of_ble_eq_true rfl, Nat.le_of_ble_eq_true rfl⟩ (Nat.le_of_ble_eq_true rfl) (Nat.le_of_ble_eq_true rfl) dL_law_675 (fun _ => xB_set _ _ _ _ _ _) rfl (fun u H locs hw => ?_)
      refine lv_aload_n hx hb dL_law_678 rfl (lv_at hl 2 rfl) ?_
      refine lv_aload_n hx hb dL_law_679 rfl (lv_at hl 0 rfl) ?_
      refine lv_iload_n hx hb dL_law_680 rfl (lv_at hl 3 rfl) ?_
      refine lv_iconst (v := 1) hx hb dL_law_681 rfl ?_
      refine lv_iadd hx hb dL_law_682 ?_
      refine l_sld E hw hX hbl hbA (i + 1) (nI_add i 1) (by omega) hL dL_law_683 ?_
      refine lv_aload_n hx hb dL_law_684 rfl (lv_at hl 0 rfl) ?_
      refine lv_iload_n hx hb dL_law_685 rfl (lv_at hl 3 rfl) ?_
      refine lv_iconst (v := 2) hx hb dL_law_686 rfl ?_
      refine lv_iadd hx hb dL_law_687 ?_
      refine l_sld E hw hX hbl hbA (i + 2) (nI_add i 2) (by omega) hL dL_law_688 ?_
      refine lv_aload_n hx hb dL_law_689 rfl (lv_at hl 0 rfl) ?_
      refine lv_iload_n hx hb dL_law_690 rfl (lv_at hl 3 rfl) ?_
      refine lv_iconst (v := 3) hx hb dL_law_691 rfl ?_
      refine lv_iadd hx hb dL_law_692 ?_
      refine l_sld E hw hX hbl hbA (i + 3) (nI_add i 3) (by omega) hL dL_law_693 ?_
      refine lv_aload_n hx hb dL_law_694 rfl (lv_at hl 0 rfl) ?_
      refine lv_iload_n hx hb dL_law_695 rfl (lv_at hl 3 rfl) ?_
      refine lv_iconst (v := 4) hx hb dL_law_696 rfl ?_
      refine lv_iadd hx hb dL_law_697 ?_
      refine l_sld E hw hX hbl hbA (i + 4) (nI_add i 4) (by omega) hL dL_law_698 ?_
      refine lv_aload_n hx hb dL_law_699 rfl (lv_at hl 0 rfl) ?_
      refine lv_iload_n hx hb dL_law_700 rfl (lv_at hl 3 rfl) ?_
      refine lv_iconst (v := 5) hx hb dL_law_701 rfl ?_
      refine lv_iadd hx hb dL_law_702 ?_
      refine l_sld E hw hX hbl hbA (i + 5) (nI_add i 5) (by omega) hL dL_law_703 ?_
      refine lv_aload_n hx hb dL_law_704 rfl (lv_at hl 0 rfl) ?_
      refine lv_iload_n hx hb dL_law_705 rfl (lv_at hl 3 rfl) ?_
      refine lv_bipush (v := 6) hx hb dL_law_706 rfl ?_
      refine lv_iadd hx hb dL_law_708 ?_
      refine l_sld E hw hX hbl hbA (i + 6) (nI_add i 6) (by omega) hL dL_law_709 ?_
      refine lv_aload_n hx hb dL_law_710 rfl (lv_at hl 0 rfl) ?_
      refine lv_iload_n hx hb dL_law_711 rfl (lv_at hl 3 rfl) ?_
      refine lv_bipush (v := 7) hx hb dL_law_712 rfl ?_
      refine lv_iadd hx hb dL_law_714 ?_
      refine l_sld E hw hX hbl hbA (i + 7) (nI_add i 7) (by omega) hL dL_law_715 ?_
      refine lc_callV (is := [19]) (As := [.int (xs (i + 1)), .int (xs (i + 2)), .int (xs (i + 3)), .int (xs (i + 4)), .int (xs (i + 5)), .int (xs (i + 6)), .int (xs (i + 7))]) (rest := [.int r]) (st1 := [.int r, .int r]) (bs' := fun v => xB G ax ad (Fx u) ++ [mY G am (Fy v)]) E hS cm vw_L_97 hw [19] rfl 19 0 rfl rfl rfl rfl (mY_pick _ _ _ _ _) (by decide) (fun _ => mY_adr _ _ _ _) hl.1 rfl rfl (Nat.le_of_ble_eq_true rfl) ⟨Nat.le_of_ble_eq_true rfl, Nat.le_of_ble_eq_true rfl⟩ (Nat.le_of_ble_eq_true rfl) (Nat.le_of_ble_eq_true rfl) dL_law_716 (fun _ => mY_set _ _ _ _ _ _) rfl (fun v H locs hw => ?_)
      refine lv_icmp_eq (tgt := 1025) hx hb dL_law_719 rfl (fun _ => ?_) (fun cz => absurd rfl cz)
      exact nxt _ _ (hR u v) H locs hw
    by_cases co_20 : op = (20 : Int32)
    · refine lv_tableIn (off := 691) (tgt := 724) hx hb dL_law_33 (by rw [co_20]; decide) (by rw [co_20]; decide) (by rw [co_20]; rfl) rfl ?_
      obtain ⟨r, σ, τ, Fx, Fy, cx, cm, hR⟩ := h_forget G ax ad am X Y hrel 
      refine lv_aload_n hx hb dL_law_724 rfl (lv_at hl 1 rfl) ?_
      refine lc_callV (is := is19) (As := []) (rest := []) (st1 := [.int r]) (bs' := fun u => xB G ax ad (Fx u) ++ [mY G am Y]) E hS cx vw_L_98 hw is19 rfl 0 0 rfl rfl rfl rfl (xB_pick _ _ _ _ _) (by decide) (fun _ => xB_adr _ _ _ _ _) hl.1 rfl rfl (Nat.le_of_ble_eq_true rfl) ⟨Nat.le_of_ble_eq_true rfl, Nat.le_of_ble_eq_true rfl⟩ (Nat.le_of_ble_eq_true rfl) (Nat.le_of_ble_eq_true rfl) dL_law_725 (fun _ => xB_set _ _ _ _ _ _) rfl (fun u H locs hw => ?_)
      refine lv_aload_n hx hb dL_law_728 rfl (lv_at hl 2 rfl) ?_
      refine lc_callV (is := [19]) (As := []) (rest := [.int r]) (st1 := [.int r, .int r]) (bs' := fun v => xB G ax ad (Fx u) ++ [mY G am (Fy v)]) E hS cm vw_L_101 hw [19] rfl 19 0 rfl rfl rfl rfl (mY_pick _ _ _ _ _) (by decide) (fun _ => mY_adr _ _ _ _) hl.1 rfl rfl (Nat.le_of_ble_eq_true rfl) ⟨Nat.le_of_ble_eq_true rfl, Nat.le_of_ble_eq_true rfl⟩ (Nat.le_of_ble_eq_true rfl) (Nat.le_of_ble_eq_true rfl) dL_law_729 (fun _ => mY_set _ _ _ _ _ _) rfl (fun v H locs hw => ?_)
      refine lv_icmp_eq (tgt := 1025) hx hb dL_law_732 rfl (fun _ => ?_) (fun cz => absurd rfl cz)
      exact nxt _ _ (hR u v) H locs hw
    by_cases co_21 : op = (21 : Int32)
    · refine lv_tableIn (off := 704) (tgt := 737) hx hb dL_law_33 (by rw [co_21]; decide) (by rw [co_21]; decide) (by rw [co_21]; rfl) rfl ?_
      obtain ⟨r, σ, τ, Fx, Fy, cx, cm, hR⟩ := h_is G ax ad am X Y hrel (xs (i + 1))
      refine lv_aload_n hx hb dL_law_737 rfl (lv_at hl 1 rfl) ?_
      refine lv_aload_n hx hb dL_law_738 rfl (lv_at hl 0 rfl) ?_
      refine lv_iload_n hx hb dL_law_739 rfl (lv_at hl 3 rfl) ?_
      refine lv_iconst (v := 1) hx hb dL_law_740 rfl ?_
      refine lv_iadd hx hb dL_law_741 ?_
      refine l_sld E hw hX hbl hbA (i + 1) (nI_add i 1) (by omega) hL dL_law_742 ?_
      refine lc_callV (is := is19) (As := [.int (xs (i + 1))]) (rest := []) (st1 := [.int r]) (bs' := fun u => xB G ax ad (Fx u) ++ [mY G am Y]) E hS cx vw_L_102 hw is19 rfl 0 0 rfl rfl rfl rfl (xB_pick _ _ _ _ _) (by decide) (fun _ => xB_adr _ _ _ _ _) hl.1 rfl rfl (Nat.le_of_ble_eq_true rfl) ⟨Nat.le_of_ble_eq_true rfl, Nat.le_of_ble_eq_true rfl⟩ (Nat.le_of_ble_eq_true rfl) (Nat.le_of_ble_eq_true rfl) dL_law_743 (fun _ => xB_set _ _ _ _ _ _) rfl (fun u H locs hw => ?_)
      refine lv_aload_n hx hb dL_law_746 rfl (lv_at hl 2 rfl) ?_
      refine lv_aload_n hx hb dL_law_747 rfl (lv_at hl 0 rfl) ?_
      refine lv_iload_n hx hb dL_law_748 rfl (lv_at hl 3 rfl) ?_
      refine lv_iconst (v := 1) hx hb dL_law_749 rfl ?_
      refine lv_iadd hx hb dL_law_750 ?_
      refine l_sld E hw hX hbl hbA (i + 1) (nI_add i 1) (by omega) hL dL_law_751 ?_
      refine lc_callV (is := [19]) (As := [.int (xs (i + 1))]) (rest := [.int r]) (st1 := [.int r, .int r]) (bs' := fun v => xB G ax ad (Fx u) ++ [mY G am (Fy v)]) E hS cm vw_L_105 hw [19] rfl 19 0 rfl rfl rfl rfl (mY_pick _ _ _ _ _) (by decide) (fun _ => mY_adr _ _ _ _) hl.1 rfl rfl (Nat.le_of_ble_eq_true rfl) ⟨Nat.le_of_ble_eq_true rfl, Nat.le_of_ble_eq_true rfl⟩ (Nat.le_of_ble_eq_true rfl) (Nat.le_of_ble_eq_true rfl) dL_law_752 (fun _ => mY_set _ _ _ _ _ _) rfl (fun v H locs hw => ?_)
      refine lv_icmp_eq (tgt := 1025) hx hb dL_law_755 rfl (fun _ => ?_) (fun cz => absurd rfl cz)
      exact nxt _ _ (hR u v) H locs hw
    by_cases co_22 : op = (22 : Int32)
    · refine lv_tableIn (off := 727) (tgt := 760) hx hb dL_law_33 (by rw [co_22]; decide) (by rw [co_22]; decide) (by rw [co_22]; rfl) rfl ?_
      obtain ⟨r, σ, τ, Fx, Fy, cx, cm, hR⟩ := h_look G ax ad am X Y hrel (xs (i + 1))
      refine lv_aload_n hx hb dL_law_760 rfl (lv_at hl 1 rfl) ?_
      refine lv_aload_n hx hb dL_law_761 rfl (lv_at hl 0 rfl) ?_
      refine lv_iload_n hx hb dL_law_762 rfl (lv_at hl 3 rfl) ?_
      refine lv_iconst (v := 1) hx hb dL_law_763 rfl ?_
      refine lv_iadd hx hb dL_law_764 ?_
      refine l_sld E hw hX hbl hbA (i + 1) (nI_add i 1) (by omega) hL dL_law_765 ?_
      refine lc_callV (is := is19) (As := [.int (xs (i + 1))]) (rest := []) (st1 := [.int r]) (bs' := fun u => xB G ax ad (Fx u) ++ [mY G am Y]) E hS cx vw_L_106 hw is19 rfl 0 0 rfl rfl rfl rfl (xB_pick _ _ _ _ _) (by decide) (fun _ => xB_adr _ _ _ _ _) hl.1 rfl rfl (Nat.le_of_ble_eq_true rfl) ⟨Nat.le_of_ble_eq_true rfl, Nat.le_of_ble_eq_true rfl⟩ (Nat.le_of_ble_eq_true rfl) (Nat.le_of_ble_eq_true rfl) dL_law_766 (fun _ => xB_set _ _ _ _ _ _) rfl (fun u H locs hw => ?_)
      refine lv_aload_n hx hb dL_law_769 rfl (lv_at hl 2 rfl) ?_
      refine lv_aload_n hx hb dL_law_770 rfl (lv_at hl 0 rfl) ?_
      refine lv_iload_n hx hb dL_law_771 rfl (lv_at hl 3 rfl) ?_
      refine lv_iconst (v := 1) hx hb dL_law_772 rfl ?_
      refine lv_iadd hx hb dL_law_773 ?_
      refine l_sld E hw hX hbl hbA (i + 1) (nI_add i 1) (by omega) hL dL_law_774 ?_
      refine lc_callV (is := [19]) (As := [.int (xs (i + 1))]) (rest := [.int r]) (st1 := [.int r, .int r]) (bs' := fun v => xB G ax ad (Fx u) ++ [mY G am (Fy v)]) E hS cm vw_L_109 hw [19] rfl 19 0 rfl rfl rfl rfl (mY_pick _ _ _ _ _) (by decide) (fun _ => mY_adr _ _ _ _) hl.1 rfl rfl (Nat.le_of_ble_eq_true rfl) ⟨Nat.le_of_ble_eq_true rfl, Nat.le_of_ble_eq_true rfl⟩ (Nat.le_of_ble_eq_true rfl) (Nat.le_of_ble_eq_true rfl) dL_law_775 (fun _ => mY_set _ _ _ _ _ _) rfl (fun v H locs hw => ?_)
      refine lv_icmp_eq (tgt := 1025) hx hb dL_law_778 rfl (fun _ => ?_) (fun cz => absurd rfl cz)
      exact nxt _ _ (hR u v) H locs hw
    by_cases co_23 : op = (23 : Int32)
    · refine lv_tableIn (off := 750) (tgt := 783) hx hb dL_law_33 (by rw [co_23]; decide) (by rw [co_23]; decide) (by rw [co_23]; rfl) rfl ?_
      obtain ⟨r, σ, τ, Fx, Fy, cx, cm, hR⟩ := h_who G ax ad am X Y hrel (xs (i + 1))
      refine lv_aload_n hx hb dL_law_783 rfl (lv_at hl 1 rfl) ?_
      refine lv_aload_n hx hb dL_law_784 rfl (lv_at hl 0 rfl) ?_
      refine lv_iload_n hx hb dL_law_785 rfl (lv_at hl 3 rfl) ?_
      refine lv_iconst (v := 1) hx hb dL_law_786 rfl ?_
      refine lv_iadd hx hb dL_law_787 ?_
      refine l_sld E hw hX hbl hbA (i + 1) (nI_add i 1) (by omega) hL dL_law_788 ?_
      refine lc_callV (is := is19) (As := [.int (xs (i + 1))]) (rest := []) (st1 := [.int r]) (bs' := fun u => xB G ax ad (Fx u) ++ [mY G am Y]) E hS cx vw_L_110 hw is19 rfl 0 0 rfl rfl rfl rfl (xB_pick _ _ _ _ _) (by decide) (fun _ => xB_adr _ _ _ _ _) hl.1 rfl rfl (Nat.le_of_ble_eq_true rfl) ⟨Nat.le_of_ble_eq_true rfl, Nat.le_of_ble_eq_true rfl⟩ (Nat.le_of_ble_eq_true rfl) (Nat.le_of_ble_eq_true rfl) dL_law_789 (fun _ => xB_set _ _ _ _ _ _) rfl (fun u H locs hw => ?_)
      refine lv_aload_n hx hb dL_law_792 rfl (lv_at hl 2 rfl) ?_
      refine lv_aload_n hx hb dL_law_793 rfl (lv_at hl 0 rfl) ?_
      refine lv_iload_n hx hb dL_law_794 rfl (lv_at hl 3 rfl) ?_
      refine lv_iconst (v := 1) hx hb dL_law_795 rfl ?_
      refine lv_iadd hx hb dL_law_796 ?_
      refine l_sld E hw hX hbl hbA (i + 1) (nI_add i 1) (by omega) hL dL_law_797 ?_
      refine lc_callV (is := [19]) (As := [.int (xs (i + 1))]) (rest := [.int r]) (st1 := [.int r, .int r]) (bs' := fun v => xB G ax ad (Fx u) ++ [mY G am (Fy v)]) E hS cm vw_L_113 hw [19] rfl 19 0 rfl rfl rfl rfl (mY_pick _ _ _ _ _) (by decide) (fun _ => mY_adr _ _ _ _) hl.1 rfl rfl (Nat.le_of_ble_eq_true rfl) ⟨Nat.le_of_ble_eq_true rfl, Nat.le_of_ble_eq_true rfl⟩ (Nat.le_of_ble_eq_true rfl) (Nat.le_of_ble_eq_true rfl) dL_law_798 (fun _ => mY_set _ _ _ _ _ _) rfl (fun v H locs hw => ?_)
      refine lv_icmp_eq (tgt := 1025) hx hb dL_law_801 rfl (fun _ => ?_) (fun cz => absurd rfl cz)
      exact nxt _ _ (hR u v) H locs hw
    by_cases co_24 : op = (24 : Int32)
    · refine lv_tableIn (off := 773) (tgt := 806) hx hb dL_law_33 (by rw [co_24]; decide) (by rw [co_24]; decide) (by rw [co_24]; rfl) rfl ?_
      obtain ⟨r, σ, τ, Fx, Fy, cx, cm, hR⟩ := h_rings G ax ad am X Y hrel (xs (i + 1)) (xs (i + 2))
      refine lv_aload_n hx hb dL_law_806 rfl (lv_at hl 1 rfl) ?_
      refine lv_aload_n hx hb dL_law_807 rfl (lv_at hl 0 rfl) ?_
      refine lv_iload_n hx hb dL_law_808 rfl (lv_at hl 3 rfl) ?_
      refine lv_iconst (v := 1) hx hb dL_law_809 rfl ?_
      refine lv_iadd hx hb dL_law_810 ?_
      refine l_sld E hw hX hbl hbA (i + 1) (nI_add i 1) (by omega) hL dL_law_811 ?_
      refine lv_aload_n hx hb dL_law_812 rfl (lv_at hl 0 rfl) ?_
      refine lv_iload_n hx hb dL_law_813 rfl (lv_at hl 3 rfl) ?_
      refine lv_iconst (v := 2) hx hb dL_law_814 rfl ?_
      refine lv_iadd hx hb dL_law_815 ?_
      refine l_sld E hw hX hbl hbA (i + 2) (nI_add i 2) (by omega) hL dL_law_816 ?_
      refine lc_callV (is := is19) (As := [.int (xs (i + 1)), .int (xs (i + 2))]) (rest := []) (st1 := [.int r]) (bs' := fun u => xB G ax ad (Fx u) ++ [mY G am Y]) E hS cx vw_L_114 hw is19 rfl 0 0 rfl rfl rfl rfl (xB_pick _ _ _ _ _) (by decide) (fun _ => xB_adr _ _ _ _ _) hl.1 rfl rfl (Nat.le_of_ble_eq_true rfl) ⟨Nat.le_of_ble_eq_true rfl, Nat.le_of_ble_eq_true rfl⟩ (Nat.le_of_ble_eq_true rfl) (Nat.le_of_ble_eq_true rfl) dL_law_817 (fun _ => xB_set _ _ _ _ _ _) rfl (fun u H locs hw => ?_)
      refine lv_aload_n hx hb dL_law_820 rfl (lv_at hl 2 rfl) ?_
      refine lv_aload_n hx hb dL_law_821 rfl (lv_at hl 0 rfl) ?_
      refine lv_iload_n hx hb dL_law_822 rfl (lv_at hl 3 rfl) ?_
      refine lv_iconst (v := 1) hx hb dL_law_823 rfl ?_
      refine lv_iadd hx hb dL_law_824 ?_
      refine l_sld E hw hX hbl hbA (i + 1) (nI_add i 1) (by omega) hL dL_law_825 ?_
      refine lv_aload_n hx hb dL_law_826 rfl (lv_at hl 0 rfl) ?_
      refine lv_iload_n hx hb dL_law_827 rfl (lv_at hl 3 rfl) ?_
      refine lv_iconst (v := 2) hx hb dL_law_828 rfl ?_
      refine lv_iadd hx hb dL_law_829 ?_
      refine l_sld E hw hX hbl hbA (i + 2) (nI_add i 2) (by omega) hL dL_law_830 ?_
      refine lc_callV (is := [19]) (As := [.int (xs (i + 1)), .int (xs (i + 2))]) (rest := [.int r]) (st1 := [.int r, .int r]) (bs' := fun v => xB G ax ad (Fx u) ++ [mY G am (Fy v)]) E hS cm vw_L_117 hw [19] rfl 19 0 rfl rfl rfl rfl (mY_pick _ _ _ _ _) (by decide) (fun _ => mY_adr _ _ _ _) hl.1 rfl rfl (Nat.le_of_ble_eq_true rfl) ⟨Nat.le_of_ble_eq_true rfl, Nat.le_of_ble_eq_true rfl⟩ (Nat.le_of_ble_eq_true rfl) (Nat.le_of_ble_eq_true rfl) dL_law_831 (fun _ => mY_set _ _ _ _ _ _) rfl (fun v H locs hw => ?_)
      refine lv_icmp_eq (tgt := 1025) hx hb dL_law_834 rfl (fun _ => ?_) (fun cz => absurd rfl cz)
      exact nxt _ _ (hR u v) H locs hw
    by_cases co_25 : op = (25 : Int32)
    · refine lv_tableIn (off := 806) (tgt := 839) hx hb dL_law_33 (by rw [co_25]; decide) (by rw [co_25]; decide) (by rw [co_25]; rfl) rfl ?_
      obtain ⟨r, σ, τ, Fx, Fy, cx, cm, hR⟩ := h_eyes G ax ad am X Y hrel (xs (i + 1))
      refine lv_aload_n hx hb dL_law_839 rfl (lv_at hl 1 rfl) ?_
      refine lv_aload_n hx hb dL_law_840 rfl (lv_at hl 0 rfl) ?_
      refine lv_iload_n hx hb dL_law_841 rfl (lv_at hl 3 rfl) ?_
      refine lv_iconst (v := 1) hx hb dL_law_842 rfl ?_
      refine lv_iadd hx hb dL_law_843 ?_
      refine l_sld E hw hX hbl hbA (i + 1) (nI_add i 1) (by omega) hL dL_law_844 ?_
      refine lc_callV (is := is19) (As := [.int (xs (i + 1))]) (rest := []) (st1 := [.int r]) (bs' := fun u => xB G ax ad (Fx u) ++ [mY G am Y]) E hS cx vw_L_118 hw is19 rfl 0 0 rfl rfl rfl rfl (xB_pick _ _ _ _ _) (by decide) (fun _ => xB_adr _ _ _ _ _) hl.1 rfl rfl (Nat.le_of_ble_eq_true rfl) ⟨Nat.le_of_ble_eq_true rfl, Nat.le_of_ble_eq_true rfl⟩ (Nat.le_of_ble_eq_true rfl) (Nat.le_of_ble_eq_true rfl) dL_law_845 (fun _ => xB_set _ _ _ _ _ _) rfl (fun u H locs hw => ?_)
      refine lv_aload_n hx hb dL_law_848 rfl (lv_at hl 2 rfl) ?_
      refine lv_aload_n hx hb dL_law_849 rfl (lv_at hl 0 rfl) ?_
      refine lv_iload_n hx hb dL_law_850 rfl (lv_at hl 3 rfl) ?_
      refine lv_iconst (v := 1) hx hb dL_law_851 rfl ?_
      refine lv_iadd hx hb dL_law_852 ?_
      refine l_sld E hw hX hbl hbA (i + 1) (nI_add i 1) (by omega) hL dL_law_853 ?_
      refine lc_callV (is := [19]) (As := [.int (xs (i + 1))]) (rest := [.int r]) (st1 := [.int r, .int r]) (bs' := fun v => xB G ax ad (Fx u) ++ [mY G am (Fy v)]) E hS cm vw_L_121 hw [19] rfl 19 0 rfl rfl rfl rfl (mY_pick _ _ _ _ _) (by decide) (fun _ => mY_adr _ _ _ _) hl.1 rfl rfl (Nat.le_of_ble_eq_true rfl) ⟨Nat.le_of_ble_eq_true rfl, Nat.le_of_ble_eq_true rfl⟩ (Nat.le_of_ble_eq_true rfl) (Nat.le_of_ble_eq_true rfl) dL_law_854 (fun _ => mY_set _ _ _ _ _ _) rfl (fun v H locs hw => ?_)
      refine lv_icmp_eq (tgt := 1025) hx hb dL_law_857 rfl (fun _ => ?_) (fun cz => absurd rfl cz)
      exact nxt _ _ (hR u v) H locs hw
    by_cases co_26 : op = (26 : Int32)
    · refine lv_tableIn (off := 829) (tgt := 862) hx hb dL_law_33 (by rw [co_26]; decide) (by rw [co_26]; decide) (by rw [co_26]; rfl) rfl ?_
      obtain ⟨r, σ, τ, Fx, Fy, cx, cm, hR⟩ := h_weeks G ax ad am X Y hrel (xs (i + 1)) (xs (i + 2))
      refine lv_aload_n hx hb dL_law_862 rfl (lv_at hl 1 rfl) ?_
      refine lv_aload_n hx hb dL_law_863 rfl (lv_at hl 0 rfl) ?_
      refine lv_iload_n hx hb dL_law_864 rfl (lv_at hl 3 rfl) ?_
      refine lv_iconst (v := 1) hx hb dL_law_865 rfl ?_
      refine lv_iadd hx hb dL_law_866 ?_
      refine l_sld E hw hX hbl hbA (i + 1) (nI_add i 1) (by omega) hL dL_law_867 ?_
      refine lv_aload_n hx hb dL_law_868 rfl (lv_at hl 0 rfl) ?_
      refine lv_iload_n hx hb dL_law_869 rfl (lv_at hl 3 rfl) ?_
      refine lv_iconst (v := 2) hx hb dL_law_870 rfl ?_
      refine lv_iadd hx hb dL_law_871 ?_
      refine l_sld E hw hX hbl hbA (i + 2) (nI_add i 2) (by omega) hL dL_law_872 ?_
      refine lc_callV (is := is19) (As := [.int (xs (i + 1)), .int (xs (i + 2))]) (rest := []) (st1 := [.int r]) (bs' := fun u => xB G ax ad (Fx u) ++ [mY G am Y]) E hS cx vw_L_122 hw is19 rfl 0 0 rfl rfl rfl rfl (xB_pick _ _ _ _ _) (by decide) (fun _ => xB_adr _ _ _ _ _) hl.1 rfl rfl (Nat.le_of_ble_eq_true rfl) ⟨Nat.le_of_ble_eq_true rfl, Nat.le_of_ble_eq_true rfl⟩ (Nat.le_of_ble_eq_true rfl) (Nat.le_of_ble_eq_true rfl) dL_law_873 (fun _ => xB_set _ _ _ _ _ _) rfl (fun u H locs hw => ?_)
      refine lv_aload_n hx hb dL_law_876 rfl (lv_at hl 2 rfl) ?_
      refine lv_aload_n hx hb dL_law_877 rfl (lv_at hl 0 rfl) ?_
      refine lv_iload_n hx hb dL_law_878 rfl (lv_at hl 3 rfl) ?_
      refine lv_iconst (v := 1) hx hb dL_law_879 rfl ?_
      refine lv_iadd hx hb dL_law_880 ?_
      refine l_sld E hw hX hbl hbA (i + 1) (nI_add i 1) (by omega) hL dL_law_881 ?_
      refine lv_aload_n hx hb dL_law_882 rfl (lv_at hl 0 rfl) ?_
      refine lv_iload_n hx hb dL_law_883 rfl (lv_at hl 3 rfl) ?_
      refine lv_iconst (v := 2) hx hb dL_law_884 rfl ?_
      refine lv_iadd hx hb dL_law_885 ?_
      refine l_sld E hw hX hbl hbA (i + 2) (nI_add i 2) (by omega) hL dL_law_886 ?_
      refine lc_callV (is := [19]) (As := [.int (xs (i + 1)), .int (xs (i + 2))]) (rest := [.int r]) (st1 := [.int r, .int r]) (bs' := fun v => xB G ax ad (Fx u) ++ [mY G am (Fy v)]) E hS cm vw_L_125 hw [19] rfl 19 0 rfl rfl rfl rfl (mY_pick _ _ _ _ _) (by decide) (fun _ => mY_adr _ _ _ _) hl.1 rfl rfl (Nat.le_of_ble_eq_true rfl) ⟨Nat.le_of_ble_eq_true rfl, Nat.le_of_ble_eq_true rfl⟩ (Nat.le_of_ble_eq_true rfl) (Nat.le_of_ble_eq_true rfl) dL_law_887 (fun _ => mY_set _ _ _ _ _ _) rfl (fun v H locs hw => ?_)
      refine lv_icmp_eq (tgt := 1025) hx hb dL_law_890 rfl (fun _ => ?_) (fun cz => absurd rfl cz)
      exact nxt _ _ (hR u v) H locs hw
    by_cases co_27 : op = (27 : Int32)
    · refine lv_tableIn (off := 862) (tgt := 895) hx hb dL_law_33 (by rw [co_27]; decide) (by rw [co_27]; decide) (by rw [co_27]; rfl) rfl ?_
      obtain ⟨r, σ, τ, Fx, Fy, cx, cm, hR⟩ := h_part G ax ad am X Y hrel (xs (i + 1))
      refine lv_aload_n hx hb dL_law_895 rfl (lv_at hl 1 rfl) ?_
      refine lv_aload_n hx hb dL_law_896 rfl (lv_at hl 0 rfl) ?_
      refine lv_iload_n hx hb dL_law_897 rfl (lv_at hl 3 rfl) ?_
      refine lv_iconst (v := 1) hx hb dL_law_898 rfl ?_
      refine lv_iadd hx hb dL_law_899 ?_
      refine l_sld E hw hX hbl hbA (i + 1) (nI_add i 1) (by omega) hL dL_law_900 ?_
      refine lc_callV (is := is19) (As := [.int (xs (i + 1))]) (rest := []) (st1 := [.long r]) (bs' := fun u => xB G ax ad (Fx u) ++ [mY G am Y]) E hS cx vw_L_126 hw is19 rfl 0 0 rfl rfl rfl rfl (xB_pick _ _ _ _ _) (by decide) (fun _ => xB_adr _ _ _ _ _) hl.1 rfl rfl (Nat.le_of_ble_eq_true rfl) ⟨Nat.le_of_ble_eq_true rfl, Nat.le_of_ble_eq_true rfl⟩ (Nat.le_of_ble_eq_true rfl) (Nat.le_of_ble_eq_true rfl) dL_law_901 (fun _ => xB_set _ _ _ _ _ _) rfl (fun u H locs hw => ?_)
      refine lv_aload_n hx hb dL_law_904 rfl (lv_at hl 2 rfl) ?_
      refine lv_aload_n hx hb dL_law_905 rfl (lv_at hl 0 rfl) ?_
      refine lv_iload_n hx hb dL_law_906 rfl (lv_at hl 3 rfl) ?_
      refine lv_iconst (v := 1) hx hb dL_law_907 rfl ?_
      refine lv_iadd hx hb dL_law_908 ?_
      refine l_sld E hw hX hbl hbA (i + 1) (nI_add i 1) (by omega) hL dL_law_909 ?_
      refine lc_callV (is := [19]) (As := [.int (xs (i + 1))]) (rest := [.long r]) (st1 := [.long r, .long r]) (bs' := fun v => xB G ax ad (Fx u) ++ [mY G am (Fy v)]) E hS cm vw_L_130 hw [19] rfl 19 0 rfl rfl rfl rfl (mY_pick _ _ _ _ _) (by decide) (fun _ => mY_adr _ _ _ _) hl.1 rfl rfl (Nat.le_of_ble_eq_true rfl) ⟨Nat.le_of_ble_eq_true rfl, Nat.le_of_ble_eq_true rfl⟩ (Nat.le_of_ble_eq_true rfl) (Nat.le_of_ble_eq_true rfl) dL_law_910 (fun _ => mY_set _ _ _ _ _ _) rfl (fun v H locs hw => ?_)
      refine W.lcmp hx hb dL_law_913 ?_
      refine lv_if_eq (tgt := 1025) hx hb dL_law_914 rfl (fun _ => ?_) (fun cz => absurd ((lg_cmp_eq r r).mpr rfl) cz)
      exact nxt _ _ (hR u v) H locs hw
    by_cases co_28 : op = (28 : Int32)
    · refine lv_tableIn (off := 886) (tgt := 919) hx hb dL_law_33 (by rw [co_28]; decide) (by rw [co_28]; decide) (by rw [co_28]; rfl) rfl ?_
      obtain ⟨r, σ, τ, Fx, Fy, cx, cm, hR⟩ := h_image G ax ad am X Y hrel (xs (i + 1))
      refine lv_aload_n hx hb dL_law_919 rfl (lv_at hl 1 rfl) ?_
      refine lv_aload_n hx hb dL_law_920 rfl (lv_at hl 0 rfl) ?_
      refine lv_iload_n hx hb dL_law_921 rfl (lv_at hl 3 rfl) ?_
      refine lv_iconst (v := 1) hx hb dL_law_922 rfl ?_
      refine lv_iadd hx hb dL_law_923 ?_
      refine l_sld E hw hX hbl hbA (i + 1) (nI_add i 1) (by omega) hL dL_law_924 ?_
      refine lc_callV (is := is19) (As := [.int (xs (i + 1))]) (rest := []) (st1 := [.int r]) (bs' := fun u => xB G ax ad (Fx u) ++ [mY G am Y]) E hS cx vw_L_131 hw is19 rfl 0 0 rfl rfl rfl rfl (xB_pick _ _ _ _ _) (by decide) (fun _ => xB_adr _ _ _ _ _) hl.1 rfl rfl (Nat.le_of_ble_eq_true rfl) ⟨Nat.le_of_ble_eq_true rfl, Nat.le_of_ble_eq_true rfl⟩ (Nat.le_of_ble_eq_true rfl) (Nat.le_of_ble_eq_true rfl) dL_law_925 (fun _ => xB_set _ _ _ _ _ _) rfl (fun u H locs hw => ?_)
      refine lv_aload_n hx hb dL_law_928 rfl (lv_at hl 2 rfl) ?_
      refine lv_aload_n hx hb dL_law_929 rfl (lv_at hl 0 rfl) ?_
      refine lv_iload_n hx hb dL_law_930 rfl (lv_at hl 3 rfl) ?_
      refine lv_iconst (v := 1) hx hb dL_law_931 rfl ?_
      refine lv_iadd hx hb dL_law_932 ?_
      refine l_sld E hw hX hbl hbA (i + 1) (nI_add i 1) (by omega) hL dL_law_933 ?_
      refine lc_callV (is := [19]) (As := [.int (xs (i + 1))]) (rest := [.int r]) (st1 := [.int r, .int r]) (bs' := fun v => xB G ax ad (Fx u) ++ [mY G am (Fy v)]) E hS cm vw_L_134 hw [19] rfl 19 0 rfl rfl rfl rfl (mY_pick _ _ _ _ _) (by decide) (fun _ => mY_adr _ _ _ _) hl.1 rfl rfl (Nat.le_of_ble_eq_true rfl) ⟨Nat.le_of_ble_eq_true rfl, Nat.le_of_ble_eq_true rfl⟩ (Nat.le_of_ble_eq_true rfl) (Nat.le_of_ble_eq_true rfl) dL_law_934 (fun _ => mY_set _ _ _ _ _ _) rfl (fun v H locs hw => ?_)
      refine lv_icmp_eq (tgt := 1025) hx hb dL_law_937 rfl (fun _ => ?_) (fun cz => absurd rfl cz)
      exact nxt _ _ (hR u v) H locs hw
    by_cases co_29 : op = (29 : Int32)
    · refine lv_tableIn (off := 909) (tgt := 942) hx hb dL_law_33 (by rw [co_29]; decide) (by rw [co_29]; decide) (by rw [co_29]; rfl) rfl ?_
      obtain ⟨r, σ, τ, Fx, Fy, cx, cm, hR⟩ := h_from G ax ad am X Y hrel (xs (i + 1))
      refine lv_aload_n hx hb dL_law_942 rfl (lv_at hl 1 rfl) ?_
      refine lv_aload_n hx hb dL_law_943 rfl (lv_at hl 0 rfl) ?_
      refine lv_iload_n hx hb dL_law_944 rfl (lv_at hl 3 rfl) ?_
      refine lv_iconst (v := 1) hx hb dL_law_945 rfl ?_
      refine lv_iadd hx hb dL_law_946 ?_
      refine l_sld E hw hX hbl hbA (i + 1) (nI_add i 1) (by omega) hL dL_law_947 ?_
      refine lc_callV (is := is19) (As := [.int (xs (i + 1))]) (rest := []) (st1 := [.int r]) (bs' := fun u => xB G ax ad (Fx u) ++ [mY G am Y]) E hS cx vw_L_135 hw is19 rfl 0 0 rfl rfl rfl rfl (xB_pick _ _ _ _ _) (by decide) (fun _ => xB_adr _ _ _ _ _) hl.1 rfl rfl (Nat.le_of_ble_eq_true rfl) ⟨Nat.le_of_ble_eq_true rfl, Nat.le_of_ble_eq_true rfl⟩ (Nat.le_of_ble_eq_true rfl) (Nat.le_of_ble_eq_true rfl) dL_law_948 (fun _ => xB_set _ _ _ _ _ _) rfl (fun u H locs hw => ?_)
      refine lv_aload_n hx hb dL_law_951 rfl (lv_at hl 2 rfl) ?_
      refine lv_aload_n hx hb dL_law_952 rfl (lv_at hl 0 rfl) ?_
      refine lv_iload_n hx hb dL_law_953 rfl (lv_at hl 3 rfl) ?_
      refine lv_iconst (v := 1) hx hb dL_law_954 rfl ?_
      refine lv_iadd hx hb dL_law_955 ?_
      refine l_sld E hw hX hbl hbA (i + 1) (nI_add i 1) (by omega) hL dL_law_956 ?_
      refine lc_callV (is := [19]) (As := [.int (xs (i + 1))]) (rest := [.int r]) (st1 := [.int r, .int r]) (bs' := fun v => xB G ax ad (Fx u) ++ [mY G am (Fy v)]) E hS cm vw_L_138 hw [19] rfl 19 0 rfl rfl rfl rfl (mY_pick _ _ _ _ _) (by decide) (fun _ => mY_adr _ _ _ _) hl.1 rfl rfl (Nat.le_of_ble_eq_true rfl) ⟨Nat.le_of_ble_eq_true rfl, Nat.le_of_ble_eq_true rfl⟩ (Nat.le_of_ble_eq_true rfl) (Nat.le_of_ble_eq_true rfl) dL_law_957 (fun _ => mY_set _ _ _ _ _ _) rfl (fun v H locs hw => ?_)
      refine lv_icmp_eq (tgt := 1025) hx hb dL_law_960 rfl (fun _ => ?_) (fun cz => absurd rfl cz)
      exact nxt _ _ (hR u v) H locs hw
    by_cases co_30 : op = (30 : Int32)
    · refine lv_tableIn (off := 932) (tgt := 965) hx hb dL_law_33 (by rw [co_30]; decide) (by rw [co_30]; decide) (by rw [co_30]; rfl) rfl ?_
      obtain ⟨r, σ, τ, Fx, Fy, cx, cm, hR⟩ := h_status G ax ad am X Y hrel (xs (i + 1))
      refine lv_aload_n hx hb dL_law_965 rfl (lv_at hl 1 rfl) ?_
      refine lv_aload_n hx hb dL_law_966 rfl (lv_at hl 0 rfl) ?_
      refine lv_iload_n hx hb dL_law_967 rfl (lv_at hl 3 rfl) ?_
      refine lv_iconst (v := 1) hx hb dL_law_968 rfl ?_
      refine lv_iadd hx hb dL_law_969 ?_
      refine l_sld E hw hX hbl hbA (i + 1) (nI_add i 1) (by omega) hL dL_law_970 ?_
      refine lc_callV (is := is19) (As := [.int (xs (i + 1))]) (rest := []) (st1 := [.int r]) (bs' := fun u => xB G ax ad (Fx u) ++ [mY G am Y]) E hS cx vw_L_139 hw is19 rfl 0 0 rfl rfl rfl rfl (xB_pick _ _ _ _ _) (by decide) (fun _ => xB_adr _ _ _ _ _) hl.1 rfl rfl (Nat.le_of_ble_eq_true rfl) ⟨Nat.le_of_ble_eq_true rfl, Nat.le_of_ble_eq_true rfl⟩ (Nat.le_of_ble_eq_true rfl) (Nat.le_of_ble_eq_true rfl) dL_law_971 (fun _ => xB_set _ _ _ _ _ _) rfl (fun u H locs hw => ?_)
      refine lv_aload_n hx hb dL_law_974 rfl (lv_at hl 2 rfl) ?_
      refine lv_aload_n hx hb dL_law_975 rfl (lv_at hl 0 rfl) ?_
      refine lv_iload_n hx hb dL_law_976 rfl (lv_at hl 3 rfl) ?_
      refine lv_iconst (v := 1) hx hb dL_law_977 rfl ?_
      refine lv_iadd hx hb dL_law_978 ?_
      refine l_sld E hw hX hbl hbA (i + 1) (nI_add i 1) (by omega) hL dL_law_979 ?_
      refine lc_callV (is := [19]) (As := [.int (xs (i + 1))]) (rest := [.int r]) (st1 := [.int r, .int r]) (bs' := fun v => xB G ax ad (Fx u) ++ [mY G am (Fy v)]) E hS cm vw_L_142 hw [19] rfl 19 0 rfl rfl rfl rfl (mY_pick _ _ _ _ _) (by decide) (fun _ => mY_adr _ _ _ _) hl.1 rfl rfl (Nat.le_of_ble_eq_true rfl) ⟨Nat.le_of_ble_eq_true rfl, Nat.le_of_ble_eq_true rfl⟩ (Nat.le_of_ble_eq_true rfl) (Nat.le_of_ble_eq_true rfl) dL_law_980 (fun _ => mY_set _ _ _ _ _ _) rfl (fun v H locs hw => ?_)
      refine lv_icmp_eq (tgt := 1025) hx hb dL_law_983 rfl (fun _ => ?_) (fun cz => absurd rfl cz)
      exact nxt _ _ (hR u v) H locs hw
    by_cases co_31 : op = (31 : Int32)
    · refine lv_tableIn (off := 955) (tgt := 988) hx hb dL_law_33 (by rw [co_31]; decide) (by rw [co_31]; decide) (by rw [co_31]; rfl) rfl ?_
      obtain ⟨r, σ, τ, Fx, Fy, cx, cm, hR⟩ := h_count G ax ad am X Y hrel (xs (i + 1))
      refine lv_aload_n hx hb dL_law_988 rfl (lv_at hl 1 rfl) ?_
      refine lv_aload_n hx hb dL_law_989 rfl (lv_at hl 0 rfl) ?_
      refine lv_iload_n hx hb dL_law_990 rfl (lv_at hl 3 rfl) ?_
      refine lv_iconst (v := 1) hx hb dL_law_991 rfl ?_
      refine lv_iadd hx hb dL_law_992 ?_
      refine l_sld E hw hX hbl hbA (i + 1) (nI_add i 1) (by omega) hL dL_law_993 ?_
      refine lc_callV (is := is19) (As := [.int (xs (i + 1))]) (rest := []) (st1 := [.int r]) (bs' := fun u => xB G ax ad (Fx u) ++ [mY G am Y]) E hS cx vw_L_143 hw is19 rfl 0 0 rfl rfl rfl rfl (xB_pick _ _ _ _ _) (by decide) (fun _ => xB_adr _ _ _ _ _) hl.1 rfl rfl (Nat.le_of_ble_eq_true rfl) ⟨Nat.le_of_ble_eq_true rfl, Nat.le_of_ble_eq_true rfl⟩ (Nat.le_of_ble_eq_true rfl) (Nat.le_of_ble_eq_true rfl) dL_law_994 (fun _ => xB_set _ _ _ _ _ _) rfl (fun u H locs hw => ?_)
      refine lv_aload_n hx hb dL_law_997 rfl (lv_at hl 2 rfl) ?_
      refine lv_aload_n hx hb dL_law_998 rfl (lv_at hl 0 rfl) ?_
      refine lv_iload_n hx hb dL_law_999 rfl (lv_at hl 3 rfl) ?_
      refine lv_iconst (v := 1) hx hb dL_law_1000 rfl ?_
      refine lv_iadd hx hb dL_law_1001 ?_
      refine l_sld E hw hX hbl hbA (i + 1) (nI_add i 1) (by omega) hL dL_law_1002 ?_
      refine lc_callV (is := [19]) (As := [.int (xs (i + 1))]) (rest := [.int r]) (st1 := [.int r, .int r]) (bs' := fun v => xB G ax ad (Fx u) ++ [mY G am (Fy v)]) E hS cm vw_L_146 hw [19] rfl 19 0 rfl rfl rfl rfl (mY_pick _ _ _ _ _) (by decide) (fun _ => mY_adr _ _ _ _) hl.1 rfl rfl (Nat.le_of_ble_eq_true rfl) ⟨Nat.le_of_ble_eq_true rfl, Nat.le_of_ble_eq_true rfl⟩ (Nat.le_of_ble_eq_true rfl) (Nat.le_of_ble_eq_true rfl) dL_law_1003 (fun _ => mY_set _ _ _ _ _ _) rfl (fun v H locs hw => ?_)
      refine lv_icmp_eq (tgt := 1025) hx hb dL_law_1006 rfl (fun _ => ?_) (fun cz => absurd rfl cz)
      exact nxt _ _ (hR u v) H locs hw
    by_cases co_32 : op = (32 : Int32)
    · refine lv_tableIn (off := 978) (tgt := 1011) hx hb dL_law_33 (by rw [co_32]; decide) (by rw [co_32]; decide) (by rw [co_32]; rfl) rfl ?_
      obtain ⟨r, σ, τ, Fx, Fy, cx, cm, hR⟩ := h_digest G ax ad am X Y hrel 
      refine lv_aload_n hx hb dL_law_1011 rfl (lv_at hl 1 rfl) ?_
      refine lc_callV (is := is19) (As := []) (rest := []) (st1 := [.long r]) (bs' := fun u => xB G ax ad (Fx u) ++ [mY G am Y]) E hS cx vw_L_147 hw is19 rfl 0 0 rfl rfl rfl rfl (xB_pick _ _ _ _ _) (by decide) (fun _ => xB_adr _ _ _ _ _) hl.1 rfl rfl (Nat.le_of_ble_eq_true rfl) ⟨Nat.le_of_ble_eq_true rfl, Nat.le_of_ble_eq_true rfl⟩ (Nat.le_of_ble_eq_true rfl) (Nat.le_of_ble_eq_true rfl) dL_law_1012 (fun _ => xB_set _ _ _ _ _ _) rfl (fun u H locs hw => ?_)
      refine lv_aload_n hx hb dL_law_1015 rfl (lv_at hl 2 rfl) ?_
      refine lc_callV (is := [19]) (As := []) (rest := [.long r]) (st1 := [.long r, .long r]) (bs' := fun v => xB G ax ad (Fx u) ++ [mY G am (Fy v)]) E hS cm vw_L_151 hw [19] rfl 19 0 rfl rfl rfl rfl (mY_pick _ _ _ _ _) (by decide) (fun _ => mY_adr _ _ _ _) hl.1 rfl rfl (Nat.le_of_ble_eq_true rfl) ⟨Nat.le_of_ble_eq_true rfl, Nat.le_of_ble_eq_true rfl⟩ (Nat.le_of_ble_eq_true rfl) (Nat.le_of_ble_eq_true rfl) dL_law_1016 (fun _ => mY_set _ _ _ _ _ _) rfl (fun v H locs hw => ?_)
      refine W.lcmp hx hb dL_law_1019 ?_
      refine lv_if_eq (tgt := 1025) hx hb dL_law_1020 rfl (fun _ => ?_) (fun cz => absurd ((lg_cmp_eq r r).mpr rfl) cz)
      exact nxt _ _ (hR u v) H locs hw
    refine lv_tableOut (tgt := 1025) hx hb dL_law_33 (by have g0 := lv_neT (a := 0) co_0 rfl; have g1 := lv_neT (a := 1) co_1 rfl; have g2 := lv_neT (a := 2) co_2 rfl; have g3 := lv_neT (a := 3) co_3 rfl; have g4 := lv_neT (a := 4) co_4 rfl; have g5 := lv_neT (a := 5) co_5 rfl; have g6 := lv_neT (a := 6) co_6 rfl; have g7 := lv_neT (a := 7) co_7 rfl; have g8 := lv_neT (a := 8) co_8 rfl; have g9 := lv_neT (a := 9) co_9 rfl; have g10 := lv_neT (a := 10) co_10 rfl; have g11 := lv_neT (a := 11) co_11 rfl; have g12 := lv_neT (a := 12) co_12 rfl; have g13 := lv_neT (a := 13) co_13 rfl; have g14 := lv_neT (a := 14) co_14 rfl; have g15 := lv_neT (a := 15) co_15 rfl; have g16 := lv_neT (a := 16) co_16 rfl; have g17 := lv_neT (a := 17) co_17 rfl; have g18 := lv_neT (a := 18) co_18 rfl; have g19 := lv_neT (a := 19) co_19 rfl; have g20 := lv_neT (a := 20) co_20 rfl; have g21 := lv_neT (a := 21) co_21 rfl; have g22 := lv_neT (a := 22) co_22 rfl; have g23 := lv_neT (a := 23) co_23 rfl; have g24 := lv_neT (a := 24) co_24 rfl; have g25 := lv_neT (a := 25) co_25 rfl; have g26 := lv_neT (a := 26) co_26 rfl; have g27 := lv_neT (a := 27) co_27 rfl; have g28 := lv_neT (a := 28) co_28 rfl; have g29 := lv_neT (a := 29) co_29 rfl; have g30 := lv_neT (a := 30) co_30 rfl; have g31 := lv_neT (a := 31) co_31 rfl; have g32 := lv_neT (a := 32) co_32 rfl; omega) rfl ?_
    exact nxt X Y hrel H locs hw
