theorem nw_L_7 : NW RL 7 RX5 9 := ⟨⟨inT1 15 rfl, Or.inl rfl⟩, ⟨inT1 16 rfl, Or.inl rfl⟩, ⟨inT1 1 rfl, Or.inl rfl⟩⟩
theorem nw_L_10 : NW RL 10 RX6 19 := ⟨⟨inT3 128 rfl, Or.inl rfl⟩, ⟨inT3 129 rfl, Or.inl rfl⟩, ⟨inT1 7 rfl, Or.inl rfl⟩⟩
theorem iw_L_9 : IW RL 9 yX5_init cX5_init 2 := ⟨⟨Or.inl ⟨inT1 17 rfl, Or.inl rfl⟩, ⟨inT1 1 rfl, Or.inl rfl⟩, ⟨⟨inT1 19 rfl, Or.inl rfl⟩, rfl⟩, by decide +kernel⟩, rfl, ⟨inT1 18 rfl, Or.inl rfl⟩⟩
theorem iw_L_12 : IW RL 12 yX6_init cX6_init 1 := ⟨⟨Or.inl ⟨inT3 130 rfl, Or.inl rfl⟩, ⟨inT1 7 rfl, Or.inl rfl⟩, ⟨⟨inT3 132 rfl, Or.inl rfl⟩, rfl⟩, by decide +kernel⟩, rfl, ⟨inT3 131 rfl, Or.inl rfl⟩⟩
/-- what is known of the tables at the start -/
theorem k_start {s : State} {b : Nat} (hts : ∀ w ∈ lw_tbl, w.before #[Value.ref b] s = true) : ∃ G : GG, KK G s := by
  obtain ⟨c0, i0, h0⟩ := u_known (C := RX0) (T := TX0) (N := 2) (n := 2) (ws := u_ws RX0 TX0 2) (fun w hw => hts w (lay_X0 w hw).1) (fun _ h => h) (hts (.instantiable RX0 2) (inT1 99 rfl))
  obtain ⟨c1, i1, h1⟩ := u_known (C := RX1) (T := TX1) (N := 3) (n := 3) (ws := u_ws RX1 TX1 3) (fun w hw => hts w (lay_X1 w hw).1) (fun _ h => h) (hts (.instantiable RX1 3) (inT1 79 rfl))
  obtain ⟨c2, i2, h2⟩ := u_known (C := RX2) (T := TX2) (N := 3) (n := 3) (ws := u_ws RX2 TX2 3) (fun w hw => hts w (lay_X2 w hw).1) (fun _ h => h) (hts (.instantiable RX2 3) (inT1 24 rfl))
  obtain ⟨c3, i3, h3⟩ := u_known (C := RX3) (T := TX3) (N := 10) (n := 10) (ws := u_ws RX3 TX3 10) (fun w hw => hts w (lay_X3 w hw).1) (fun _ h => h) (hts (.instantiable RX3 10) (inT1 30 rfl))
  obtain ⟨c4, i4, h4⟩ := u_known (C := RX4) (T := TX4) (N := 6) (n := 6) (ws := u_ws RX4 TX4 6) (fun w hw => hts w (lay_X4 w hw).1) (fun _ h => h) (hts (.instantiable RX4 6) (inT1 129 rfl))
  obtain ⟨c5, i5, h5⟩ := u_known (C := RX5) (T := TX5) (N := 9) (n := 9) (ws := u_ws RX5 TX5 9) (fun w hw => hts w (lay_X5 w hw).1) (fun _ h => h) (hts (.instantiable RX5 9) (inT1 16 rfl))
  obtain ⟨c6, i6, h6⟩ := u_known (C := RX6) (T := TX6) (N := 19) (n := 19) (ws := u_ws RX6 TX6 19) (fun w hw => hts w (lay_X6 w hw).1) (fun _ h => h) (hts (.instantiable RX6 19) (inT3 129 rfl))
  obtain ⟨a0, k0, m0, f0, g0, d0⟩ := Cond.arrayClass_spec (hts (.arrayClass .int) (inT1 77 rfl))
  obtain ⟨a1, k1, m1, f1, g1, d1⟩ := Cond.arrayClass_spec (hts (.arrayClass .byte) (inT1 155 rfl))
  obtain ⟨a2, k2, m2, f2, g2, d2⟩ := Cond.arrayClass_spec (hts (.arrayClass .boolean) (inT1 154 rfl))
  obtain ⟨m3, a3, k3, e3, -, g3, d3, f3⟩ := Cond.arrayOver_spec (n := RX3) (hts (.arrayOver (.object RX3)) (inT1 85 rfl))
  obtain ⟨m4, a4, k4, e4, -, g4, d4, f4⟩ := Cond.arrayOver_spec (n := RX2) (hts (.arrayOver (.object RX2)) (inT1 127 rfl))
  refine ⟨((fun k => match k with | 0 => c0 | 1 => c1 | 2 => c2 | 3 => c3 | 4 => c4 | 5 => c5 | _ => c6, fun k => match k with | 0 => i0 | 1 => i1 | 2 => i2 | 3 => i3 | 4 => i4 | 5 => i5 | _ => i6), fun k => match k with | 0 => a0 | 1 => a1 | 2 => a2 | 3 => a3 | _ => a4), ⟨fun k q hq => ?_, fun k q hq => ?_⟩, fun w hw => ?_⟩
  · match k, hq with
    | 0, hq => cases hq; exact h0
    | 1, hq => cases hq; exact h1
    | 2, hq => cases hq; exact h2
    | 3, hq => cases hq; exact h3
    | 4, hq => cases hq; exact h4
    | 5, hq => cases hq; exact h5
    | 6, hq => cases hq; exact h6
    | k + 7, hq => simp [cls] at hq
  · match k, hq with
    | 0, hq => cases hq; exact ⟨fun n z => ⟨(fun k h => by cases h), k0, g0, m0, d0⟩, f0⟩
    | 1, hq => cases hq; exact ⟨fun n z => ⟨(fun k h => by cases h), k1, g1, m1, d1⟩, f1⟩
    | 2, hq => cases hq; exact ⟨fun n z => ⟨(fun k h => by cases h), k2, g2, m2, d2⟩, f2⟩
    | 3, hq => cases hq; exact ⟨fun n z => ⟨(fun k h => by cases h), k3, g3, m3, d3⟩, k3, m3, g3, d3, e3, f3⟩
    | 4, hq => cases hq; exact ⟨fun n z => ⟨(fun k h => by cases h), k4, g4, m4, d4⟩, k4, m4, g4, d4, e4, f4⟩
    | k + 5, hq => simp [gty] at hq
  · rcases hw.2 with hg | hn
    · exact word_at (State.WarmedH.refl s) (good_of_word hg) (hts w hw.1)
    · have h9 := hts w hw.1
      unfold nestWord at hn
      split at hn
      · exact va_Nw.of rfl h9
      · exact va_Nw.of rfl h9
      · exact va_AO.of h9
      · exact absurd hn (by decide)
def kTm : Nat → Term := fun i => match i with | 0 => .string "BiteChild$Text" 87 | 1 => .string "BiteChild$Text" 93 | _ => .string "BiteChild$Text" 95
set_option maxRecDepth 100000 in
theorem s_start {s : State} {b : Nat} (hts : ∀ w ∈ lw_tbl, w.before #[Value.ref b] s = true) (hgv : (Jvm.Cond.and given_1 narrow_1).before #[Value.ref b] s = true) : ∃ K : KA, SK K (fun q => s.heap.size ≤ q) s s.heap := by
  have hs := flat_of_before _ hgv
  have hA : ∀ a : Nat, a < s.heap.size → ¬ (fun q => s.heap.size ≤ q) a := fun a h => Nat.not_le.mpr h
  obtain ⟨adK, adV, hV, hE⟩ := vk_Sof (args := #[Value.ref b]) (s := s) (N := 3) (tm := kTm) (len := kLen) (byt := kByt) (A := fun q => s.heap.size ≤ q) (fun i _ => Nat.lt_trans (kLen_lt i) (by decide)) (fun i hi => by rcases (show i = 0 ∨ i = 1 ∨ i = 2 by omega) with rfl | rfl | rfl <;> exact hs _ (by decide +kernel)) (fun i hi => by rcases (show i = 0 ∨ i = 1 ∨ i = 2 by omega) with rfl | rfl | rfl <;> exact hs _ (by decide +kernel)) (fun i hi => by rcases (show i = 0 ∨ i = 1 ∨ i = 2 by omega) with rfl | rfl | rfl <;> exact hs _ (by decide +kernel)) (fun i hi => by rcases (show i = 0 ∨ i = 1 ∨ i = 2 by omega) with rfl | rfl | rfl <;> exact hs _ (by decide +kernel))
    (fun i hi j hj => by
      rcases (show i = 0 ∨ i = 1 ∨ i = 2 by omega) with rfl | rfl | rfl
      · rcases (show j = 0 ∨ j = 1 ∨ j = 2 ∨ j = 3 ∨ j = 4 by have : j < 5 := hj; omega) with rfl | rfl | rfl | rfl | rfl <;> exact hs _ (by decide +kernel)
      · rcases (show j = 0 ∨ j = 1 ∨ j = 2 ∨ j = 3 ∨ j = 4 by have : j < 5 := hj; omega) with rfl | rfl | rfl | rfl | rfl <;> exact hs _ (by decide +kernel)
      · rcases (show j = 0 ∨ j = 1 ∨ j = 2 ∨ j = 3 ∨ j = 4 ∨ j = 5 by have : j < 6 := hj; omega) with rfl | rfl | rfl | rfl | rfl | rfl <;> exact hs _ (by decide +kernel)
    )
    (fun i j hi hj hij => by
      rcases (show i = 0 ∨ i = 1 ∨ i = 2 by omega) with rfl | rfl | rfl <;> rcases (show j = 0 ∨ j = 1 ∨ j = 2 by omega) with rfl | rfl | rfl <;> first | exact absurd rfl hij | exact Or.inl (hs _ (by decide +kernel)) | exact Or.inr (hs _ (by decide +kernel))
    ) hA
  obtain ⟨v, hv, hvr⟩ := Cond.isRef_spec (show (Cond.isRef (.static "jdk/internal/util/Preconditions" "SIOOBE_FORMATTER" "Ljava/util/function/BiFunction;")).before #[Value.ref b] s = true from hs _ (by decide +kernel))
  obtain ⟨q, hq⟩ : ∃ q : Option Nat, v = va_rf q := by
    cases v <;> first | exact ⟨none, rfl⟩ | exact ⟨some _, rfl⟩ | (simp [Value.isRef] at hvr)
  subst hq
  refine ⟨(adK, adV, q), hV, va_Zof (hts _ (inT2 38 rfl)) (hts (.initialized "java/lang/String") (inT1 9 rfl)) (va_eqi (hs _ (by decide +kernel))) hA, va_Zof (hts _ (inT2 54 rfl)) (hts (.initialized "jdk/internal/util/Preconditions") (inT1 11 rfl)) hv hA, vk_R.of (hts _ (inT2 24 rfl)) (hE 0 (by decide)), vk_R.of (hts _ (inT2 77 rfl)) (hE 1 (by decide)), vk_R.of (hts _ (inT2 78 rfl)) (hE 2 (by decide))⟩
set_option maxHeartbeats 4000000 in
set_option maxRecDepth 100000 in
theorem start_of (Rel : XS → YS → Prop) (l : Launch) (h_table : ∀ (K : KA) (G : GG) (ax : Nat) (ad : Ad) (am : Nat → Nat) (X : XS) (Y : YS), Rel X Y → ∀ a1 : Int32, OPi Rel K l G ax ad am yX5_table cX5_table 3 yX6_table cX6_table 3 [.int a1] X Y) (h_child : ∀ (K : KA) (G : GG) (ax : Nat) (ad : Ad) (am : Nat → Nat) (X : XS) (Y : YS), Rel X Y → ∀ a1 a2 a3 a4 : Int32, OPi Rel K l G ax ad am yX5_child cX5_child 6 yX6_child cX6_child 5 [.int a1, .int a2, .int a3, .int a4] X Y) (h_type : ∀ (K : KA) (G : GG) (ax : Nat) (ad : Ad) (am : Nat → Nat) (X : XS) (Y : YS), Rel X Y → ∀ a1 : Int32, OPi Rel K l G ax ad am yX5_type cX5_type 2 yX6_type cX6_type 2 [.int a1] X Y) (h_clear : ∀ (K : KA) (G : GG) (ax : Nat) (ad : Ad) (am : Nat → Nat) (X : XS) (Y : YS), Rel X Y → OPi Rel K l G ax ad am yX5_clear cX5_clear 2 yX6_clear cX6_clear 2 [] X Y) (h_read : ∀ (K : KA) (G : GG) (ax : Nat) (ad : Ad) (am : Nat → Nat) (X : XS) (Y : YS), Rel X Y → OPi Rel K l G ax ad am yX5_read cX5_read 2 yX6_read cX6_read 2 [] X Y) (h_minute : ∀ (K : KA) (G : GG) (ax : Nat) (ad : Ad) (am : Nat → Nat) (X : XS) (Y : YS), Rel X Y → ∀ a1 : Int32, OPi Rel K l G ax ad am yX5_minute cX5_minute 2 yX6_minute cX6_minute 4 [.int a1] X Y) (h_carrot : ∀ (K : KA) (G : GG) (ax : Nat) (ad : Ad) (am : Nat → Nat) (X : XS) (Y : YS), Rel X Y → ∀ a1 : Int32, OPi Rel K l G ax ad am yX5_carrot cX5_carrot 2 yX6_carrot cX6_carrot 2 [.int a1] X Y) (h_moves : ∀ (K : KA) (G : GG) (ax : Nat) (ad : Ad) (am : Nat → Nat) (X : XS) (Y : YS), Rel X Y → ∀ a1 a2 : Int32, OPi Rel K l G ax ad am yX5_moves cX5_moves 5 yX6_moves cX6_moves 5 [.int a1, .int a2] X Y) (h_woman : ∀ (K : KA) (G : GG) (ax : Nat) (ad : Ad) (am : Nat → Nat) (X : XS) (Y : YS), Rel X Y → ∀ a1 : Int32, OPi Rel K l G ax ad am yX5_woman cX5_woman 3 yX6_woman cX6_woman 3 [.int a1] X Y) (h_undo : ∀ (K : KA) (G : GG) (ax : Nat) (ad : Ad) (am : Nat → Nat) (X : XS) (Y : YS), Rel X Y → OPi Rel K l G ax ad am yX5_undo cX5_undo 1 yX6_undo cX6_undo 1 [] X Y) (h_of : ∀ (K : KA) (G : GG) (ax : Nat) (ad : Ad) (am : Nat → Nat) (X : XS) (Y : YS), Rel X Y → ∀ a1 a2 : Int32, OPi Rel K l G ax ad am yX5_of cX5_of 3 yX6_of cX6_of 3 [.int a1, .int a2] X Y) (h_now : ∀ (K : KA) (G : GG) (ax : Nat) (ad : Ad) (am : Nat → Nat) (X : XS) (Y : YS), Rel X Y → ∀ a1 a2 : Int32, OPi Rel K l G ax ad am yX5_now cX5_now 3 yX6_now cX6_now 3 [.int a1, .int a2] X Y) (h_then : ∀ (K : KA) (G : GG) (ax : Nat) (ad : Ad) (am : Nat → Nat) (X : XS) (Y : YS), Rel X Y → ∀ a1 a2 : Int32, OPi Rel K l G ax ad am yX5_then cX5_then 3 yX6_then cX6_then 4 [.int a1, .int a2] X Y) (h_quiet : ∀ (K : KA) (G : GG) (ax : Nat) (ad : Ad) (am : Nat → Nat) (X : XS) (Y : YS), Rel X Y → OPi Rel K l G ax ad am yX5_quiet cX5_quiet 2 yX6_quiet cX6_quiet 2 [] X Y) (h_stand : ∀ (K : KA) (G : GG) (ax : Nat) (ad : Ad) (am : Nat → Nat) (X : XS) (Y : YS), Rel X Y → ∀ a1 a2 : Int32, OPi Rel K l G ax ad am yX5_stand cX5_stand 7 yX6_stand cX6_stand 7 [.int a1, .int a2] X Y) (h_helps : ∀ (K : KA) (G : GG) (ax : Nat) (ad : Ad) (am : Nat → Nat) (X : XS) (Y : YS), Rel X Y → OPi Rel K l G ax ad am yX5_helps cX5_helps 6 yX6_helps cX6_helps 6 [] X Y) (h_seated : ∀ (K : KA) (G : GG) (ax : Nat) (ad : Ad) (am : Nat → Nat) (X : XS) (Y : YS), Rel X Y → ∀ a1 : Int32, OPi Rel K l G ax ad am yX5_seated cX5_seated 4 yX6_seated cX6_seated 3 [.int a1] X Y) (h_words : ∀ (K : KA) (G : GG) (ax : Nat) (ad : Ad) (am : Nat → Nat) (X : XS) (Y : YS), Rel X Y → ∀ a1 : Int32, OPi Rel K l G ax ad am yX5_words cX5_words 3 yX6_words cX6_words 3 [.int a1] X Y) (h_say : ∀ (K : KA) (G : GG) (ax : Nat) (ad : Ad) (am : Nat → Nat) (X : XS) (Y : YS), Rel X Y → OPi Rel K l G ax ad am yX5_say cX5_say 5 yX6_say cX6_say 5 [] X Y) (h_note : ∀ (K : KA) (G : GG) (ax : Nat) (ad : Ad) (am : Nat → Nat) (X : XS) (Y : YS), Rel X Y → ∀ a1 a2 a3 a4 a5 a6 a7 : Int32, OPi Rel K l G ax ad am yX5_note cX5_note 9 yX6_note cX6_note 9 [.int a1, .int a2, .int a3, .int a4, .int a5, .int a6, .int a7] X Y) (h_forget : ∀ (K : KA) (G : GG) (ax : Nat) (ad : Ad) (am : Nat → Nat) (X : XS) (Y : YS), Rel X Y → OPi Rel K l G ax ad am yX5_forget cX5_forget 2 yX6_forget cX6_forget 2 [] X Y) (h_is : ∀ (K : KA) (G : GG) (ax : Nat) (ad : Ad) (am : Nat → Nat) (X : XS) (Y : YS), Rel X Y → ∀ a1 : Int32, OPi Rel K l G ax ad am yX5_is cX5_is 2 yX6_is cX6_is 2 [.int a1] X Y) (h_look : ∀ (K : KA) (G : GG) (ax : Nat) (ad : Ad) (am : Nat → Nat) (X : XS) (Y : YS), Rel X Y → ∀ a1 : Int32, OPi Rel K l G ax ad am yX5_look cX5_look 9 yX6_look cX6_look 7 [.int a1] X Y) (h_who : ∀ (K : KA) (G : GG) (ax : Nat) (ad : Ad) (am : Nat → Nat) (X : XS) (Y : YS), Rel X Y → ∀ a1 : Int32, OPi Rel K l G ax ad am yX5_who cX5_who 4 yX6_who cX6_who 4 [.int a1] X Y) (h_rings : ∀ (K : KA) (G : GG) (ax : Nat) (ad : Ad) (am : Nat → Nat) (X : XS) (Y : YS), Rel X Y → ∀ a1 a2 : Int32, OPi Rel K l G ax ad am yX5_rings cX5_rings 7 yX6_rings cX6_rings 7 [.int a1, .int a2] X Y) (h_eyes : ∀ (K : KA) (G : GG) (ax : Nat) (ad : Ad) (am : Nat → Nat) (X : XS) (Y : YS), Rel X Y → ∀ a1 : Int32, OPi Rel K l G ax ad am yX5_eyes cX5_eyes 4 yX6_eyes cX6_eyes 10 [.int a1] X Y) (h_weeks : ∀ (K : KA) (G : GG) (ax : Nat) (ad : Ad) (am : Nat → Nat) (X : XS) (Y : YS), Rel X Y → ∀ a1 a2 : Int32, OPi Rel K l G ax ad am yX5_weeks cX5_weeks 8 yX6_weeks cX6_weeks 8 [.int a1, .int a2] X Y) (h_part : ∀ (K : KA) (G : GG) (ax : Nat) (ad : Ad) (am : Nat → Nat) (X : XS) (Y : YS), Rel X Y → ∀ a1 : Int32, OPl Rel K l G ax ad am yX5_part cX5_part 2 yX6_part cX6_part 2 [.int a1] X Y) (h_image : ∀ (K : KA) (G : GG) (ax : Nat) (ad : Ad) (am : Nat → Nat) (X : XS) (Y : YS), Rel X Y → ∀ a1 : Int32, OPi Rel K l G ax ad am yX5_image cX5_image 2 yX6_image cX6_image 2 [.int a1] X Y) (h_from : ∀ (K : KA) (G : GG) (ax : Nat) (ad : Ad) (am : Nat → Nat) (X : XS) (Y : YS), Rel X Y → ∀ a1 : Int32, OPi Rel K l G ax ad am yX5_from cX5_from 2 yX6_from cX6_from 2 [.int a1] X Y) (h_status : ∀ (K : KA) (G : GG) (ax : Nat) (ad : Ad) (am : Nat → Nat) (X : XS) (Y : YS), Rel X Y → ∀ a1 : Int32, OPi Rel K l G ax ad am yX5_status cX5_status 2 yX6_status cX6_status 2 [.int a1] X Y) (h_count : ∀ (K : KA) (G : GG) (ax : Nat) (ad : Ad) (am : Nat → Nat) (X : XS) (Y : YS), Rel X Y → ∀ a1 : Int32, OPi Rel K l G ax ad am yX5_count cX5_count 2 yX6_count cX6_count 2 [.int a1] X Y) (h_digest : ∀ (K : KA) (G : GG) (ax : Nat) (ad : Ad) (am : Nat → Nat) (X : XS) (Y : YS), Rel X Y → OPl Rel K l G ax ad am yX5_digest cX5_digest 5 yX6_digest cX6_digest 4 [] X Y) (rel0 : Rel X0_ Y0_)
    {p : Program} {e : Env} {s : State} {m : MethodId} {below : List Frame} {meth : Method} {c : Code} {b L : Nat} {xs : Nat → Int32} (hL : L ≤ 512) (C0 : lw_At p s m meth c b L xs) : W p l e room_1 s m #[Value.ref b] below meth c s.heap [] 0 0 (lw_Z below #[Value.ref b] s) (entryFrame m ([Value.ref b] : List Value).toArray 4) := by
  obtain ⟨hx, hb, hr, hml, hown, hts, hX, hbl, hlocks, hgv⟩ := id C0
  obtain ⟨G, hK⟩ := k_start hts
  obtain ⟨K, hS⟩ := s_start hts hgv
  have E : Ex G p s m meth c cL_law 4 (some .boolean) RL := ⟨hx, hb, hml, hown, hr, hlocks, hK⟩
  have hA : ∀ q : Nat, s.heap.size ≤ q → (fun q : Nat => s.heap.size ≤ q) q := fun _ h => h
  have hbA : ¬ (fun q : Nat => s.heap.size ≤ q) b := Nat.not_le.mpr hbl
  have hl := lv_entry ([.ref b]) (n := 4) (Nat.le_of_ble_eq_true rfl)
  rw [lg_entry_eq]
  generalize (lg_sl ([.ref b]) ++ List.replicate (4 - (lg_sl ([.ref b])).length) Slot.unset).toArray = ls at hl ⊢
  have hl : lv_has ls 4 [(0, .ref b)] := hl
  have hw : Bd G (fun q : Nat => s.heap.size ≤ q) s s.heap [] [] := ⟨fun k q h => by simp at h, ⟨fun i j p q h => by simp at h, fun k q h => by simp at h⟩, va_S.rf⟩
  refine n_new (fs := [.null, .null, .null, .null, .null, .null, .null, .long 0, .long 0]) (bs' := fun q => [[(q, .inr (5, [.null, .null, .null, .null, .null, .null, .null, .long 0, .long 0]))]]) (cells' := 1) (slots' := 9) E hA hw (ci := 5) rfl nw_L_7 lay_X5 tyX5 tyX5_ok (fun j hj => by rcases (show j = 0 ∨ j = 1 ∨ j = 2 ∨ j = 3 ∨ j = 4 ∨ j = 5 ∨ j = 6 ∨ j = 7 ∨ j = 8 by omega) with rfl | rfl | rfl | rfl | rfl | rfl | rfl | rfl | rfl <;> rfl) (Nat.le_of_ble_eq_true rfl) (Nat.le_of_ble_eq_true rfl) dL_law_0 (fun _ => rfl) rfl rfl (fun ax H hw => ?_)
  refine lv_dup hx hb dL_law_3 rfl ?_
  refine n_callI (bs0 := []) (rest := [.ref ax]) (bs' := fun ad => [(xB G ax ad X0_).flatten]) (cells' := 190) (slots' := 1472) E hA (c_X5_init l G ax) iw_L_9 hw rfl hl.1 (Nat.le_of_ble_eq_true rfl) ⟨(Nat.le_of_ble_eq_true rfl), (Nat.le_of_ble_eq_true rfl)⟩ (Nat.le_of_ble_eq_true rfl) (Nat.le_of_ble_eq_true rfl) dL_law_4 (fun _ => rfl) rfl rfl (fun ad H locs hw => ?_)
  have hw : Bd G (fun q : Nat => s.heap.size ≤ q) s H locs (xB G ax ad X0_) := by
    have h9 : Wd G (fun q : Nat => s.heap.size ≤ q) s H locs ([(xB G ax ad X0_).flatten].flatten) := hw
    rw [flat1] at h9
    exact h9
  refine lv_astore_n (lv' := [(1, .ref ax), (0, .ref b)]) hx hb dL_law_7 rfl hl (by decide) rfl (fun ls hl => ?_)
  refine n_new (fs := [.null, .null, .null, .null, .null, .null, .int 0, .long 0, .long 0, .int 0, .int 0, .int 0, .int 0, .int 0, .int 0, .long 0, .int 0, .null, .null]) (bs' := fun q => xB G ax ad X0_ ++ [[(q, .inr (6, [.null, .null, .null, .null, .null, .null, .int 0, .long 0, .long 0, .int 0, .int 0, .int 0, .int 0, .int 0, .int 0, .long 0, .int 0, .null, .null]))]]) (cells' := 191) (slots' := 1491) E hA hw (ci := 6) rfl nw_L_10 lay_X6 tyX6 tyX6_ok (fun j hj => by rcases (show j = 0 ∨ j = 1 ∨ j = 2 ∨ j = 3 ∨ j = 4 ∨ j = 5 ∨ j = 6 ∨ j = 7 ∨ j = 8 ∨ j = 9 ∨ j = 10 ∨ j = 11 ∨ j = 12 ∨ j = 13 ∨ j = 14 ∨ j = 15 ∨ j = 16 ∨ j = 17 ∨ j = 18 by omega) with rfl | rfl | rfl | rfl | rfl | rfl | rfl | rfl | rfl | rfl | rfl | rfl | rfl | rfl | rfl | rfl | rfl | rfl | rfl <;> rfl) (Nat.le_of_ble_eq_true rfl) (Nat.le_of_ble_eq_true rfl) dL_law_8 (fun _ => rfl) rfl rfl (fun q H hw => ?_)
  refine lv_dup hx hb dL_law_11 rfl ?_
  refine n_callI (bs0 := xB G ax ad X0_) (rest := [.ref q]) (bs' := fun u => xB G ax ad X0_ ++ [mY G (at0 q u) Y0_]) (cells' := 199) (slots' := 2710) E hA (c_X6_init l G q) iw_L_12 hw rfl hl.1 (Nat.le_of_ble_eq_true rfl) ⟨(Nat.le_of_ble_eq_true rfl), (Nat.le_of_ble_eq_true rfl)⟩ (Nat.le_of_ble_eq_true rfl) (Nat.le_of_ble_eq_true rfl) dL_law_12 (fun _ => rfl) rfl rfl (fun u H locs hw => ?_)
  refine lv_astore_n (lv' := [(2, .ref q), (1, .ref ax), (0, .ref b)]) hx hb dL_law_15 rfl hl (by decide) rfl (fun ls hl => ?_)
  refine lv_iconst (v := 0) hx hb dL_law_16 rfl ?_
  refine lv_istore_n (lv' := [(3, .int 0), (2, .ref q), (1, .ref ax), (0, .ref b)]) hx hb dL_law_17 rfl hl (by decide) rfl (fun ls hl => ?_)
  exact law_loop Rel K l (h_table K) (h_child K) (h_type K) (h_clear K) (h_read K) (h_minute K) (h_carrot K) (h_moves K) (h_woman K) (h_undo K) (h_of K) (h_now K) (h_then K) (h_quiet K) (h_stand K) (h_helps K) (h_seated K) (h_words K) (h_say K) (h_note K) (h_forget K) (h_is K) (h_look K) (h_who K) (h_rings K) (h_eyes K) (h_weeks K) (h_part K) (h_image K) (h_from K) (h_status K) (h_count K) (h_digest K) hL E hS hX hbl hbA ax ad (at0 q u) (fun X Y H locs ls hw => W.widen (k := 600000) (n := 7302250) (by decide) (by decide) (va_forget (fun q hq => hw.2.2.2.2 q hq) (lw_ret hx hb hr hlocks dL_law_1032))) 513 0 X0_ Y0_ rel0 (Nat.zero_le _) (by decide) _ _ _ hw (lv_sub hl [3, 2, 1, 0] rfl)
