-- ==================== the powers of a number, laid
theorem ZE_and {ρ : Type} {P Q : ρ → Prop} {x : Option ρ} (h1 : ZE P x) (h2 : ZE Q x) : ZE (fun r => P r ∧ Q r) x := by
  obtain ⟨r, e1, p⟩ := h1
  obtain ⟨q, e2, p2⟩ := h2
  rw [e1] at e2
  cases e2
  exact ⟨r, e1, p, p2⟩
theorem zDvB (p : Nat) : ∀ (f r k : Nat), 1 ≤ r → 1 ≤ (nDv p f r k).1 ∧ (nDv p f r k).1 ≤ r ∧ (nDv p f r k).2 ≤ k + f := by
  intro f
  induction f with
  | zero => intro r k h; exact ⟨h, Nat.le_refl _, Nat.le_refl _⟩
  | succ f ih =>
    intro r k h
    show 1 ≤ (if r % p = 0 then nF (r / p) (fun q => nDv p f q (k + 1)) else (r, k)).1 ∧ (if r % p = 0 then nF (r / p) (fun q => nDv p f q (k + 1)) else (r, k)).1 ≤ r ∧ (if r % p = 0 then nF (r / p) (fun q => nDv p f q (k + 1)) else (r, k)).2 ≤ k + (f + 1)
    by_cases c : r % p = 0
    · rw [if_pos c, nF_eq]
      have hd := Nat.dvd_of_mod_eq_zero c
      have hp : 0 < p := by
        rcases Nat.eq_zero_or_pos p with e | e
        · rw [e] at hd; have := Nat.eq_zero_of_zero_dvd hd; omega
        · exact e
      have h1 : 1 ≤ r / p := Nat.div_pos (Nat.le_of_dvd h hd) hp
      have h2 : r / p ≤ r := Nat.div_le_self _ _
      have := ih (r / p) (k + 1) h1
      omega
    · rw [if_neg c]
      exact ⟨h, Nat.le_refl _, by show k ≤ k + (f + 1); omega⟩
set_option maxHeartbeats 2000000 in
theorem zNdvL {P : ((Nat → Int32) × (Nat → Int32) × Int32) → Prop} (F : Nat) (v3_0 : Int32) (p : Nat) (hp : v3_0.toInt = p) (hp2 : 2 ≤ p) (T : Nat × Nat) (k : Int32 → Int32 → Option ((Nat → Int32) × (Nat → Int32) × Int32)) (hk : ∀ a b : Int32, a.toInt = (T.1 : Int) → b.toInt = (T.2 : Int) → ZE P (k a b)) : ∀ (f : Nat) (va vb : Int32) (r kk : Nat), va.toInt = r → vb.toInt = kk → 1 ≤ r → kk ≤ 9 → nDv p (9 - kk) r kk = T → 10 - kk < f → ZE P (p_X2_lay_L1 F v3_0 k f va vb) := by
  intro f
  induction f with
  | zero => intro _ _ _ _ _ _ _ _ _ hm; exact absurd hm (Nat.not_lt_zero _)
  | succ f ih =>
    intro va vb r kk ha hb h1 h2 hT hm
    show ZE P (if (9 : Int32) ≤ vb then (k va vb) else (zg (v3_0 = 0) (if ¬ (zr va v3_0) = 0 then (k va vb) else (zg (v3_0 = 0) (p_X2_lay_L1 F v3_0 k f (va / v3_0) (vb + (1 : Int32)))))))
    have o9 : (9 : Int32).toInt = 9 := by decide
    refine ZE_if (fun c => ?_) (fun c => ?_)
    · rw [Int32.le_iff_toInt_le, o9] at c
      have e : kk = 9 := by omega
      subst e
      have hT' : (r, 9) = T := hT
      rw [← hT'] at hk
      exact hk _ _ ha hb
    · rw [Int32.le_iff_toInt_le, o9] at c
      have e9 : 9 - kk = (9 - (kk + 1)) + 1 := by omega
      rw [e9] at hT
      have hT' : (if r % p = 0 then nF (r / p) (fun q => nDv p (9 - (kk + 1)) q (kk + 1)) else (r, kk)) = T := hT
      refine ZE_zg (zne0 (by omega)) (ZE_if (fun c2 => ?_) (fun c2 => ZE_zg (zne0 (by omega)) ?_))
      · rw [if_neg (fun h => c2 ((zDvdN ha hp (by omega)).mpr (Nat.dvd_of_mod_eq_zero h)))] at hT'
        rw [← hT'] at hk
        exact hk _ _ ha hb
      · have hd := (zDvdN ha hp (by omega)).mp (Decidable.not_not.mp c2)
        rw [if_pos (Nat.mod_eq_zero_of_dvd hd), nF_eq] at hT'
        exact ih _ _ (r / p) (kk + 1) (zDivN ha hp (by omega)) (zAddN hb (by omega)) (Nat.div_pos (Nat.le_of_dvd h1 hd) (by omega)) (by omega) hT' (by omega)
def zRep (L : List (Nat × Nat)) (pr tm : Nat → Int32) (cn : Int32) : Prop := cn.toInt = (L.length : Int) ∧ L.length ≤ 4 ∧ ∀ (i : Nat) (q : Nat × Nat), L[i]? = some q → (pr i).toInt = (q.1 : Int) ∧ (tm i).toInt = (q.2 : Int) ∧ 1 ≤ q.2 ∧ q.2 ≤ 9
theorem zRepA {L : List (Nat × Nat)} {pr tm : Nat → Int32} {cn : Int32} (h : zRep L pr tm cn) (hl : L.length < 4) {vp vk : Int32} {p k : Nat} (hp : vp.toInt = p) (hk : vk.toInt = k) (h1 : 1 ≤ k) (h2 : k ≤ 9) : zRep (L ++ [(p, k)]) (upd pr cn.toNatClampNeg vp) (upd tm cn.toNatClampNeg vk) (cn + (1 : Int32)) := by
  obtain ⟨a1, a2, a3⟩ := h
  have ec : cn.toNatClampNeg = L.length := by rw [zcl, a1]; rfl
  rw [ec]
  refine ⟨?_, by rw [List.length_append]; show L.length + 1 ≤ 4; omega, fun i q hq => ?_⟩
  · rw [zAddN a1 (by omega), List.length_append]
    rfl
  · rcases Nat.lt_trichotomy i L.length with h | h | h
    · rw [List.getElem?_append_left h] at hq
      have := a3 i q hq
      unfold upd
      rw [if_neg (by omega), if_neg (by omega)]
      exact this
    · subst h
      rw [List.getElem?_append_right (Nat.le_refl _), Nat.sub_self] at hq
      have hq' : some (p, k) = some q := hq
      cases hq'
      unfold upd
      rw [if_pos rfl, if_pos rfl]
      exact ⟨hp, hk, h1, h2⟩
    · rw [List.getElem?_append_right (by omega)] at hq
      have : [(p, k)][i - L.length]? = none := List.getElem?_eq_none (by show 1 ≤ i - L.length; omega)
      rw [this] at hq
      cases hq
set_option maxHeartbeats 4000000 in
theorem zLayL {P : ((Nat → Int32) × (Nat → Int32) × Int32) → Prop} (F : Nat) (hF : 2000 ≤ F) (T : List (Nat × Nat)) (k : Int32 → Int32 → (Nat → Int32) → (Nat → Int32) → Int32 → Option ((Nat → Int32) × (Nat → Int32) × Int32)) (hk : ∀ (a b : Int32) (pr tm : Nat → Int32) (cn : Int32), zRep T pr tm cn → ZE P (k a b pr tm cn)) : ∀ (f : Nat) (va vd : Int32) (prL0 tmL0 : Nat → Int32) (cnL0 : Int32) (r p g : Nat) (L : List (Nat × Nat)), va.toInt = r → vd.toInt = p → 1 ≤ r → r ≤ 1000 → 2 ≤ p → p + g = 1002 → zRep L prL0 tmL0 cnL0 → nLay g p r L = T → g < f → ZE P (p_X2_lay_L0 F k f va vd prL0 tmL0 cnL0) := by
  intro f
  induction f with
  | zero => intro _ _ _ _ _ _ _ _ _ _ _ _ _ _ _ _ _ hm; exact absurd hm (Nat.not_lt_zero _)
  | succ f ih =>
    intro va vd prL0 tmL0 cnL0 r p g L ha hd h1 h2 h3 h4 hR hT hm
    show ZE P (if va < vd then (k va vd prL0 tmL0 cnL0) else (p_X2_lay_L1 F vd (fun v2_1 v4_1 => (if v4_1 ≤ 0 then (p_X2_lay_L0 F k f v2_1 (vd + (1 : Int32)) prL0 tmL0 cnL0) else (if cnL0 < 0 then (p_X2_lay_L0 F k f v2_1 (vd + (1 : Int32)) prL0 tmL0 cnL0) else (if (4 : Int32) ≤ cnL0 then (p_X2_lay_L0 F k f v2_1 (vd + (1 : Int32)) prL0 tmL0 cnL0) else (zg (cnL0 < 0 ∨ 4 ≤ cnL0.toNatClampNeg) (zg (cnL0 < 0 ∨ 4 ≤ cnL0.toNatClampNeg) (p_X2_lay_L0 F k f v2_1 (vd + (1 : Int32)) (upd prL0 cnL0.toNatClampNeg vd) (upd tmL0 cnL0.toNatClampNeg v4_1) (cnL0 + (1 : Int32))))))))) F va (0 : Int32)))
    have o0 : (0 : Int32).toInt = 0 := by decide
    have o4 : (4 : Int32).toInt = 4 := by decide
    have e1 := zAddN hd (by omega)
    have hR0 := hR
    obtain ⟨b1, b2, b3⟩ := hR0
    refine ZE_if (fun c => ?_) (fun c => ?_)
    · rw [Int32.lt_iff_toInt_lt] at c
      have hlt : r < p := by omega
      have : L = T := by
        rw [← hT]
        cases g with
        | zero => rfl
        | succ g =>
          show L = if r < p then L else _
          rw [if_pos hlt]
      rw [← this] at hk
      exact hk _ _ _ _ _ hR
    · rw [Int32.lt_iff_toInt_lt] at c
      have hge : ¬ r < p := by omega
      obtain ⟨g, rfl⟩ : ∃ g', g = g' + 1 := ⟨g - 1, by omega⟩
      obtain ⟨d1, d2, d3⟩ := zDvB p 9 r 0 h1
      have hT' : (if r < p then L else nF (nDv p 9 r 0).1 (fun q => nF (nDv p 9 r 0).2 (fun k => if k = 0 then nF (p + 1) (fun p' => nLay g p' q L) else if L.length < 4 then nF (p + 1) (fun p' => nLay g p' q (L ++ [(p, k)])) else nF (p + 1) (fun p' => nLay g p' q L)))) = T := hT
      rw [if_neg hge, nF_eq, nF_eq, nF_eq, nF_eq] at hT'
      refine zNdvL F vd p hd h3 (nDv p 9 r 0) _ (fun x y hx hy => ?_) F va 0 r 0 ha (by decide) h1 (by omega) rfl (by omega)
      refine ZE_if (fun c2 => ?_) (fun c2 => ?_)
      · rw [Int32.le_iff_toInt_le, o0, hy] at c2
        rw [if_pos (by omega)] at hT'
        exact ih _ _ _ _ _ _ (p + 1) g L hx e1 d1 (by omega) (by omega) (by omega) hR hT' (by omega)
      · rw [Int32.le_iff_toInt_le, o0, hy] at c2
        rw [if_neg (by omega)] at hT'
        refine ZE_if (fun c3 => ?_) (fun c3 => ZE_if (fun c4 => ?_) (fun c4 => ?_))
        · rw [Int32.lt_iff_toInt_lt, o0] at c3
          omega
        · rw [Int32.le_iff_toInt_le, o4] at c4
          rw [if_neg (by omega)] at hT'
          exact ih _ _ _ _ _ _ (p + 1) g L hx e1 d1 (by omega) (by omega) (by omega) hR hT' (by omega)
        · rw [Int32.le_iff_toInt_le, o4] at c4
          rw [if_pos (by omega)] at hT'
          refine ZE_zg (zgi (by omega) (by omega)) (ZE_zg (zgi (by omega) (by omega)) ?_)
          exact ih _ _ _ _ _ _ (p + 1) g _ hx e1 d1 (by omega) (by omega) (by omega) (zRepA hR (by omega) hd hy (by omega) (by omega)) hT' (by omega)
theorem zLay (F : Nat) (pr tm : Nat → Int32) (p0 : Int32) (n : Nat) (hF : 2000 ≤ F) (hn : p0.toInt = n) (h1 : 1 ≤ n) (h2 : n ≤ 1000) : ZE (fun (r : ((Nat → Int32) × (Nat → Int32) × Int32)) => zRep (nPw n) r.1 r.2.1 r.2.2) (p_X2_lay F pr tm p0) := by
  unfold p_X2_lay
  exact zLayL F hF (nPw n) _ (fun a b pr tm cn h => ⟨_, rfl, h⟩) F p0 2 pr tm 0 n 2 1000 [] hn (by decide) h1 h2 (by omega) (by omega) ⟨by decide, by decide, fun i q h => by cases h⟩ rfl (by omega)
theorem zTmA {L : List (Nat × Nat)} {pr tm : Nat → Int32} {cn v : Int32} {i : Nat} {q : Nat × Nat} (h : zRep L pr tm cn) (hv : v.toInt = i) (hi : i < L.length) (hq : L[i]? = some q) : ZE (fun (r : Int32) => r.toInt = (q.2 : Int)) (p_X2_timesAt tm v) := by
  unfold p_X2_timesAt
  obtain ⟨a1, a2, a3⟩ := h
  rw [if_neg (by rw [Int32.lt_iff_toInt_lt, show (0 : Int32).toInt = 0 from by decide]; omega), if_neg (by rw [Int32.le_iff_toInt_le, show (4 : Int32).toInt = 4 from by decide]; omega)]
  refine ZE_zg (zgi (by omega) (by omega)) ⟨_, rfl, ?_⟩
  rw [show v.toNatClampNeg = i by rw [zcl, hv]; rfl]
  exact (a3 i q hq).2.1
theorem zPrA {L : List (Nat × Nat)} {pr tm : Nat → Int32} {cn v : Int32} {i : Nat} {q : Nat × Nat} (h : zRep L pr tm cn) (hv : v.toInt = i) (hi : i < L.length) (hq : L[i]? = some q) : ZE (fun (r : Int32) => r.toInt = (q.1 : Int)) (p_X2_primeAt pr v) := by
  unfold p_X2_primeAt
  obtain ⟨a1, a2, a3⟩ := h
  rw [if_neg (by rw [Int32.lt_iff_toInt_lt, show (0 : Int32).toInt = 0 from by decide]; omega), if_neg (by rw [Int32.le_iff_toInt_le, show (4 : Int32).toInt = 4 from by decide]; omega)]
  refine ZE_zg (zgi (by omega) (by omega)) ⟨_, rfl, ?_⟩
  rw [show v.toNatClampNeg = i by rw [zcl, hv]; rfl]
  exact (a3 i q hq).1
theorem zFoldS {α : Type} (g : α → Nat × Nat → α) (a0 : α) (L : List (Nat × Nat)) (i : Nat) (q : Nat × Nat) (h : L[i]? = some q) : (L.take (i + 1)).foldl g a0 = g ((L.take i).foldl g a0) q := by
  rw [List.take_succ, h, Option.toList_some, List.foldl_append]
  rfl

set_option maxHeartbeats 2000000 in
theorem zSgnPL {P : (Int32 × (Nat → Int32) × (Nat → Int32) × Int32) → Prop} (F : Nat) (tm_2 : Nat → Int32) (cn_3 : Int32) (pr_1 : Nat → Int32) (L : List (Nat × Nat)) (hF : 2000 ≤ F) (hR : zRep L pr_1 tm_2 cn_3) (k : Int32 → Int32 → Option (Int32 × (Nat → Int32) × (Nat → Int32) × Int32)) (hk : ∀ a b : Int32, a = Int32.ofInt (lSgn L) → ZE P (k a b)) : ∀ (f : Nat) (va vi : Int32) (i : Nat), vi.toInt = i → i ≤ L.length → va = Int32.ofInt ((L.take i).foldl (fun (a : Int) (q : Nat × Nat) => if q.2 < 2 then -a else 0) (1 : Int)) → 5 - i < f → ZE P (p_X1_signByPowers_L0 F tm_2 cn_3 k f va vi) := by
  intro f
  induction f with
  | zero => intro _ _ _ _ _ _ hm; exact absurd hm (Nat.not_lt_zero _)
  | succ f ih =>
    intro va vi i hi hle ha hm
    show ZE P (zb1 (p_X2_count cn_3) (fun r5 => (if r5 ≤ vi then (k va vi) else (zb1 (p_X2_timesAt tm_2 vi) (fun r7 => (if r7 < (2 : Int32) then (p_X1_signByPowers_L0 F tm_2 cn_3 k f (-va) (vi + (1 : Int32))) else (p_X1_signByPowers_L0 F tm_2 cn_3 k f (0 : Int32) (vi + (1 : Int32)))))))))
    have hR0 := hR
    obtain ⟨b1, b2, b3⟩ := hR0
    have e1 := zAddN hi (by omega)
    refine ZE_b1 (Q := fun r => r = cn_3) ⟨_, rfl, rfl⟩ (fun r5 h5 => ?_)
    subst h5
    refine ZE_if (fun c => ?_) (fun c => ?_)
    · rw [Int32.le_iff_toInt_le] at c
      have : i = L.length := by omega
      rw [List.take_of_length_le (by omega)] at ha
      exact hk _ _ ha
    · rw [Int32.le_iff_toInt_le] at c
      have hlt : i < L.length := by omega
      have hq := List.getElem?_eq_getElem hlt
      generalize L[i] = q at hq
      have hfs := zFoldS (fun (a : Int) (q : Nat × Nat) => if q.2 < 2 then -a else 0) (1 : Int) L i q hq
      obtain ⟨c1, c2, c3, c4⟩ := b3 i q hq
      refine ZE_b1 (zTmA hR hi hlt hq) (fun r7 h7 => ?_)
      refine ZE_if (fun c5 => ?_) (fun c5 => ?_)
      · rw [Int32.lt_iff_toInt_lt, h7, show (2 : Int32).toInt = 2 from by decide] at c5
        refine ih _ _ (i + 1) e1 (by omega) ?_ (by omega)
        rw [hfs, if_pos (by omega), Int32.ofInt_neg, ← ha]
      · rw [Int32.lt_iff_toInt_lt, h7, show (2 : Int32).toInt = 2 from by decide] at c5
        refine ih _ _ (i + 1) e1 (by omega) ?_ (by omega)
        rw [hfs, if_neg (by omega)]
        rfl

set_option maxHeartbeats 2000000 in
theorem zPhiPL1 {P : (Int32 × (Nat → Int32) × (Nat → Int32) × Int32) → Prop} (F : Nat) (pr_1 : Nat → Int32) (tm_2 : Nat → Int32) (v3_0 : Int32) (cn_3 : Int32) (L : List (Nat × Nat)) (i : Nat) (q : Nat × Nat) (hR : zRep L pr_1 tm_2 cn_3) (hi : v3_0.toInt = i) (hlt : i < L.length) (hq : L[i]? = some q) (hq1 : 1 ≤ q.2) (hq9 : q.2 ≤ 9) (k : Int32 → Int32 → Option (Int32 × (Nat → Int32) × (Nat → Int32) × Int32)) (hk : ∀ a b : Int32, a = Int32.ofInt ((q.1 ^ (q.2 - 1) : Nat) : Int) → ZE P (k a b)) : ∀ (f : Nat) (v4_1 v5_1 : Int32) (j : Nat), v5_1.toInt = ((j + 1 : Nat) : Int) → j + 1 ≤ q.2 → v4_1 = Int32.ofInt ((q.1 ^ j : Nat) : Int) → 10 - j < f → ZE P (p_X1_phiByPowers_L1 F pr_1 tm_2 v3_0 k f v4_1 v5_1) := by
  intro f
  induction f with
  | zero => intros; rename_i hm; exact absurd hm (Nat.not_lt_zero _)
  | succ f ih =>
    intro v4_1 v5_1 j hj hle ha hm
    show ZE P (zb1 (p_X2_timesAt tm_2 v3_0) (fun r9 => (if r9 ≤ v5_1 then (k v4_1 v5_1) else (zb1 (p_X2_primeAt pr_1 v3_0) (fun r11 => (p_X1_phiByPowers_L1 F pr_1 tm_2 v3_0 k f (v4_1 * r11) (v5_1 + (1 : Int32))))))))
    have e1 := zAddN hj (by omega)
    refine ZE_b1 (zTmA hR hi hlt hq) (fun r9 h9 => ?_)
    refine ZE_if (fun c => ?_) (fun c => ?_)
    · rw [Int32.le_iff_toInt_le] at c
      have : j = q.2 - 1 := by omega
      rw [this] at ha
      exact hk _ _ ha
    · rw [Int32.le_iff_toInt_le] at c
      refine ZE_b1 (zPrA hR hi hlt hq) (fun r11 h11 => ?_)
      have em := zMlc ha (zOf h11) (y := ((q.1 ^ (j + 1) : Nat) : Int)) (by rw [Nat.pow_succ, Int.natCast_mul])
      exact ih _ _ (j + 1) e1 (by omega) em (by omega)

set_option maxHeartbeats 2000000 in
theorem zPhiPL {P : (Int32 × (Nat → Int32) × (Nat → Int32) × Int32) → Prop} (F : Nat) (pr_1 : Nat → Int32) (tm_2 : Nat → Int32) (cn_3 : Int32) (L : List (Nat × Nat)) (hF : 2000 ≤ F) (hR : zRep L pr_1 tm_2 cn_3) (k : Int32 → Int32 → Option (Int32 × (Nat → Int32) × (Nat → Int32) × Int32)) (hk : ∀ a b : Int32, a = Int32.ofInt (lPhi L) → ZE P (k a b)) : ∀ (f : Nat) (va vi : Int32) (i : Nat), vi.toInt = i → i ≤ L.length → va = Int32.ofInt ((L.take i).foldl (fun (a : Int) (q : Nat × Nat) => a * (((q.1 ^ (q.2 - 1) : Nat) : Int) * q.1 - ((q.1 ^ (q.2 - 1) : Nat) : Int))) (1 : Int)) → 5 - i < f → ZE P (p_X1_phiByPowers_L0 F pr_1 tm_2 cn_3 k f va vi) := by
  intro f
  induction f with
  | zero => intro _ _ _ _ _ _ hm; exact absurd hm (Nat.not_lt_zero _)
  | succ f ih =>
    intro va vi i hi hle ha hm
    show ZE P (zb1 (p_X2_count cn_3) (fun r5 => (if r5 ≤ vi then (k va vi) else (p_X1_phiByPowers_L1 F pr_1 tm_2 vi (fun v4_1 v5_1 => (zb1 (p_X2_primeAt pr_1 vi) (fun r7 => (p_X1_phiByPowers_L0 F pr_1 tm_2 cn_3 k f (va * ((v4_1 * r7) - v4_1)) (vi + (1 : Int32)))))) F (1 : Int32) (1 : Int32)))))
    have hR0 := hR
    obtain ⟨b1, b2, b3⟩ := hR0
    have e1 := zAddN hi (by omega)
    refine ZE_b1 (Q := fun r => r = cn_3) ⟨_, rfl, rfl⟩ (fun r5 h5 => ?_)
    subst h5
    refine ZE_if (fun c => ?_) (fun c => ?_)
    · rw [Int32.le_iff_toInt_le] at c
      have : i = L.length := by omega
      rw [List.take_of_length_le (by omega)] at ha
      exact hk _ _ ha
    · rw [Int32.le_iff_toInt_le] at c
      have hlt : i < L.length := by omega
      have hq := List.getElem?_eq_getElem hlt
      generalize L[i] = q at hq
      have hfs := zFoldS (fun (a : Int) (q : Nat × Nat) => a * (((q.1 ^ (q.2 - 1) : Nat) : Int) * q.1 - ((q.1 ^ (q.2 - 1) : Nat) : Int))) (1 : Int) L i q hq
      obtain ⟨c1, c2, c3, c4⟩ := b3 i q hq
      refine zPhiPL1 F pr_1 tm_2 vi _ L i q hR hi hlt hq c3 c4 _ (fun x y hx => ?_) F 1 1 0 (by decide) (by omega) (by rw [Nat.pow_zero]; rfl) (by omega)
      refine ZE_b1 (zPrA hR hi hlt hq) (fun r11 h11 => ?_)
      refine ih _ _ (i + 1) e1 (by omega) (zMlc ha ?_ hfs) (by omega)
      rw [Int32.ofInt_sub, Int32.ofInt_mul, ← hx, ← zOf h11]

theorem zSgnP (F : Nat) (pr tm : Nat → Int32) (p0 : Int32) (n : Nat) (hF : 2000 ≤ F) (hn : p0.toInt = n) (h1 : 1 ≤ n) (h2 : n ≤ 1000) : ZE (fun (r : (Int32 × (Nat → Int32) × (Nat → Int32) × Int32)) => r.1 = Int32.ofInt (lSgn (nPw n))) (p_X1_signByPowers F pr tm p0) := by
  unfold p_X1_signByPowers
  refine ZE_b3 (zLay F pr tm p0 n hF hn h1 h2) (fun pr_1 tm_2 cn_3 hR => ?_)
  exact zSgnPL F tm_2 cn_3 pr_1 (nPw n) hF hR _ (fun a b h => ⟨_, rfl, h⟩) F 1 0 0 (by decide) (by omega) rfl (by omega)

theorem zPhiP (F : Nat) (pr tm : Nat → Int32) (p0 : Int32) (n : Nat) (hF : 2000 ≤ F) (hn : p0.toInt = n) (h1 : 1 ≤ n) (h2 : n ≤ 1000) : ZE (fun (r : (Int32 × (Nat → Int32) × (Nat → Int32) × Int32)) => r.1 = Int32.ofInt (lPhi (nPw n))) (p_X1_phiByPowers F pr tm p0) := by
  unfold p_X1_phiByPowers
  refine ZE_b3 (zLay F pr tm p0 n hF hn h1 h2) (fun pr_1 tm_2 cn_3 hR => ?_)
  exact zPhiPL F pr_1 tm_2 cn_3 (nPw n) hF hR _ (fun a b h => ⟨_, rfl, h⟩) F 1 0 0 (by decide) (by omega) rfl (by omega)
