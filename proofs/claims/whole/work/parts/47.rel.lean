/-! how the class's state stands to the reference's -/
def BDa (c : Nat → Int32) (a : Nat) : Prop := (∃ b, b ≤ 6 ∧ c 19 = nI b) ∧ c 21 = nI a ∧ ∀ j, j < 6 → ∃ b, b ≤ 6 * a ∧ c (12 + j) = nI b
def BD (c : Nat → Int32) : Prop := ∃ a, a ≤ 999 ∧ BDa c a
theorem bd_congr {c d : Nat → Int32} (h : BD c) (e : ∀ j, 12 ≤ j → j < 22 → ¬ j = 20 → d j = c j) : BD d := by
  obtain ⟨a, ha, ⟨b, hb, eb⟩, h2, h3⟩ := h
  exact ⟨a, ha, ⟨b, hb, by rw [e 19 (by omega) (by omega) (by omega)]; exact eb⟩, by rw [e 21 (by omega) (by omega) (by omega)]; exact h2, fun j hj => by rw [e (12 + j) (by omega) (by omega) (by omega)]; exact h3 j hj⟩
theorem bd_0 (x : Int32) : BD (upd bg0 20 x) := ⟨0, by omega, ⟨0, by omega, rfl⟩, rfl, fun j hj => ⟨0, by omega, by rw [upd_ne _ _ (by omega), bg0, if_neg (by omega)]; rfl⟩⟩
def RelC (n : Nat) (t : Tb) (c : Nat → Int32) : Prop :=
  t.1 = c 20 ∧ t.2.1 = c 21 ∧ t.2.2.1 = c 18 ∧ t.2.2.2.1 = c 19 ∧ t.2.2.2.2.1 = nI n ∧ (∃ a, a < 8 ∧ c 20 = nI a) ∧ (∃ a, a ≤ 999 ∧ c 21 = nI a) ∧
  (∀ j, j < n → t.2.2.2.2.2.2.1 j = c j ∧ t.2.2.2.2.2.2.2.2.1 j = c (6 + j) ∧ t.2.2.2.2.2.2.2.2.2 j = c (12 + j) ∧ (∃ a, a < 8 ∧ c j = nI a) ∧ ∃ a, a ≤ 30 ∧ c (6 + j) = nI a) ∧
  (∀ i, i < n → ∀ j, j < n → c i = c j → i = j) ∧ (∀ j, n ≤ j → j < 6 → c (12 + j) = 0) ∧ BD c
def RelK (n : Nat) (t : Tb) (nw : Nat → Int32) : Prop := ∀ j, j < n → t.2.2.2.2.2.1 j = nw (23 + j) ∧ t.2.2.2.2.2.2.2.1 j = nw (29 + j)
def RelS (S : Sn) (nw : Nat → Int32) : Prop := ∃ n zn u o : Nat, n ≤ 6 ∧ nw 22 = nI n ∧ RelC n S.1 nw ∧ RelK n S.1 nw ∧ (∀ j, j < n → (∃ a, a ≤ 5 ∧ nw (23 + j) = nI a) ∧ ∃ a, a ≤ 20 ∧ nw (29 + j) = nI a) ∧
  zn ≤ 6 ∧ S.2.2.2 = nI zn ∧ nw 35 = nI zn ∧ (∀ j, j < 7 * zn → S.2.2.1 j = nw (36 + j) ∧ ∃ a, a ≤ 60 ∧ nw (36 + j) = nI a) ∧
  u ≤ 8 ∧ o < 8 ∧ S.2.1.1 = nI o ∧ S.2.1.2.1 = nI u ∧ nw 78 = nI u ∧ ∀ k, k < u → RelC n (S.2.1.2.2 ((o + k) % 8)) (fun i => nw (79 + 22 * k + i)) ∧ RelK n (S.2.1.2.2 ((o + k) % 8)) nw
def RelX (t : Xt) (txt : Nat → Int32) (sz : Int32) : Prop := ∃ z q r : Nat, z ≤ 150 ∧ t.2.1 = nI z ∧ sz = nI z ∧ t.2.2.1 = nI q ∧ t.2.2.2.1 = nI r ∧ ∀ j, j < z → t.1 j = txt j ∧ ∃ a, a ≤ 127 ∧ txt j = nI a
def Rel (X : XS) (Y : YS) : Prop :=
  RelS X.1 Y.1 ∧ (X.2.2.2.1 0 = Y.2.2.2.2.1 0 ∧ X.2.2.2.1 1 = Y.2.2.2.2.1 1 ∧ (¬ X.2.2.2.1 0 = 0 → RelS X.2.1 (fun j => Y.2.2.2.1 j)) ∧ (¬ X.2.2.2.1 1 = 0 → RelS X.2.2.1 (fun j => Y.2.2.2.1 (255 + j)))) ∧
  RelX X.2.2.2.2.1 Y.2.2.2.2.2.1 Y.2.2.2.2.2.2.1 ∧ (X.2.2.2.2.2.2.2.1 0 = Y.2.2.2.2.2.2.2.2.2.1 ∧ X.2.2.2.2.2.2.2.1 1 = Y.2.2.2.2.2.2.2.2.2.2.1 ∧ X.2.2.2.2.2.2.2.1 2 = Y.2.2.2.2.2.2.2.2.2.2.2.1) ∧
  X.2.2.2.2.2.2.2.2.1 = Y.2.2.2.2.2.2.2.1 ∧ X.2.2.2.2.2.2.2.2.2 = Y.2.2.2.2.2.2.2.2.1
theorem rel0 : Rel X0_ Y0_ := by
  refine ⟨⟨0, 0, 0, 0, by omega, rfl, ⟨rfl, rfl, rfl, rfl, rfl, ⟨0, by omega, rfl⟩, ⟨0, by omega, rfl⟩, fun j hj => absurd hj (by omega), fun i hi => absurd hi (by omega), fun j _ hj => ?_, bd_0 0⟩, fun j hj => absurd hj (by omega), fun j hj => absurd hj (by omega), by omega, rfl, rfl, fun j hj => absurd hj (by omega), by omega, by omega, rfl, rfl, rfl, fun k hk => absurd hk (by omega)⟩, ⟨rfl, rfl, fun h => absurd rfl h, fun h => absurd rfl h⟩, ⟨0, 0, 0, by omega, rfl, rfl, rfl, rfl, fun j hj => absurd hj (by omega)⟩, ⟨rfl, rfl, rfl⟩, rfl, rfl⟩
  show upd bg0 20 0 (12 + j) = 0
  rw [upd_ne _ _ (by omega), bg0, if_neg (by omega)]
set_option maxRecDepth 100000 in
theorem op_clear (l : Launch) (K : KA) (G : GG) (ax : Nat) (ad : Ad) (am : Nat → Nat) (X : XS) (Y : YS) (h : Rel X Y) : OPi Rel K l G ax ad am yX5_clear cX5_clear 2 yX6_clear cX6_clear 2 [] X Y := by
  obtain ⟨sc, i0, i1, kp, ⟨f, len, pl, sa, tk, vl⟩, tr, sg, rf, ab, bl⟩ := X
  obtain ⟨nw, rd, asd, img, kpt, txt, sz, abv, blw, bds, nos, fls, att, bgn, tkn, wrd, vlu, sts, bst⟩ := Y
  obtain ⟨h1, h2, ⟨z, q, r, hz, e1, e2, e3, e4, h3⟩, h4⟩ := h
  dsimp only at e1 e2 e3 e4 h3
  subst e1; subst e2
  refine ⟨nI z, Unit, Unit, fun _ => (sc, i0, i1, kp, (f, 0, pl, sa, tk, vl), tr, sg, rf, ab, bl), fun _ => (nw, rd, asd, img, kpt, txt, 0, abv, blw, bds, nos, fls, att, bgn, tkn, wrd, vlu, sts, bst), ?_, ?_, fun _ _ => ⟨h1, h2, ⟨0, q, r, by omega, rfl, rfl, e3, e4, fun j hj => absurd hj (by omega)⟩, h4⟩⟩
  · exact LC.ofT (wb := [xO G ax (ad 11 0) (ad 11 1) (ad 11 2) (ad 9) (ad 10) (ad 11 3) (ad 11 4) ab bl, xT G (ad 9) f (nI z) pl sa tk vl]) (wb' := [xO G ax (ad 11 0) (ad 11 1) (ad 11 2) (ad 9) (ad 10) (ad 11 3) (ad 11 4) ab bl, xT G (ad 9) f 0 pl sa tk vl]) [0, 15] (c_X5_clear l G ax (ad 11 0) (ad 11 1) (ad 11 2) (ad 9) (ad 10) (ad 11 3) (ad 11 4) ab bl f z pl sa tk vl) (by decide) (by decide) rfl rfl rfl rfl rfl rfl
  · exact LC.ofT (wb := [mW G am nw rd asd img kpt txt (nI z) abv blw bds nos fls att bgn tkn wrd vlu sts bst]) (wb' := [mW G am nw rd asd img kpt txt 0 abv blw bds nos fls att bgn tkn wrd vlu sts bst]) [0] (c_X6_clear l G am nw rd asd img kpt txt (nI z) abv blw bds nos fls att bgn tkn wrd vlu sts bst) (by decide) (by decide) (flat1 _) (flat1 _) rfl rfl rfl rfl
