-- the reference's checker in a body: types and what is open
/-- the open things in their rows: kinds, labels, ends, heights, dead -/
def cfm (A : Nat → Nat) (F : Nat → Nat → Int32) : List ckF → Prop
  | [] => True
  | f :: r => ((F (A 24) r.length).toInt = fk f ∧ (F (A 25) r.length).toInt = fl_ f ∧ (F (A 26) r.length).toInt = fe f ∧ (F (A 27) r.length).toInt = (fb f).length ∧ (F (A 28) r.length).toInt = fd f) ∧ cfm A F r
def zS (A : Nat → Nat) (F : Nat → Nat → Int32) (v : Nat → Int32) (cur : List Int) (fs : List ckF) (g : Int) : Prop :=
  (v 22).toInt = cur.length ∧ (v 29).toInt = fs.length ∧ (v 23).toInt = g ∧ cs_o (F (A 21)) cur ∧ cfm A F fs ∧ 0 ≤ g ∧ g ≤ 60000
/-- numbers of the object that an instruction's check may change -/
def bv (v v' : Nat → Int32) : Prop := ∀ j, j ≠ 14 → j ≠ 15 → j ≠ 16 → j ≠ 17 → j ≠ 18 → j ≠ 22 → j ≠ 23 → j ≠ 29 → v' j = v j
def b7 : List Nat := [21, 24, 25, 26, 27, 28]
def bF (A : Nat → Nat) (F F' : Nat → Nat → Int32) : Prop := ∀ a, (∀ k, k ∈ b7 → a ≠ A k) → F' a = F a
section MK3
variable {own : Nat → Nat} {mm m : Nat} {A : Nat → Nat} {h : xb_H} {F F' F2 : Nat → Nat → Int32} {v v' v2 : Nat → Int32} {D : zM} {cur ex : List Int} {fs r : List ckF} {f : ckF} {g : Int}
theorem bv.rf : bv v v := fun _ _ _ _ _ _ _ _ _ => rfl
theorem bv.tr (h1 : bv v v') (h2 : bv v' v2) : bv v v2 := fun j a b c d e f g h => (h2 j a b c d e f g h).trans (h1 j a b c d e f g h)
theorem vg.bv (h1 : vg v v') : bv v v' := fun j a b c d e _ _ _ => h1 j a b c d e
theorem bF.rf : bF A F F := fun _ _ => rfl
theorem bF.tr (h1 : bF A F F') (h2 : bF A F' F2) : bF A F F2 := fun a ha => (h2 a ha).trans (h1 a ha)
theorem bF.up {k : Nat} {w : Nat → Int32} (hk : k ∈ b7) : bF A F (va_up F (A k) w) := fun a ha => by rw [xh_up, if_neg (ha k hk)]
theorem mX.bF (hX : mX own mm A h F m D) (h1 : bF A F F') : mX own mm A h F' m D := by
  have hn : ∀ j, j ∈ [3, 6, 7, 8, 9, 10, 11] → F' (A j) = F (A j) := fun j hj => h1 (A j) (fun k hk => by
    have : ∀ j, j ∈ [3, 6, 7, 8, 9, 10, 11] → ∀ k, k ∈ b7 → (∃ e ∈ aL, e.1 = j) ∧ (∃ e ∈ aL, e.1 = k) ∧ j ≠ k := by decide
    obtain ⟨a1, a2, a3⟩ := this j hj k hk
    exact hX.1.ne a1 a2 a3)
  obtain ⟨hB, ⟨a1, a2, a3, a4, a5, a6⟩, hR⟩ := hX
  refine ⟨hB, ⟨a1, ?_, ?_, ?_, ?_, ?_⟩, hR⟩
  · rw [hn 6 (by decide)]; exact a2
  · rw [hn 7 (by decide)]; exact a3
  · rw [hn 3 (by decide)]; exact a4
  · rw [hn 9 (by decide), hn 8 (by decide), hn 11 (by decide)]; exact a5
  · rw [hn 10 (by decide)]; exact a6
theorem cfm.cg : ∀ {fs : List ckF}, (∀ k, k ∈ [24, 25, 26, 27, 28] → ∀ j, j < fs.length → F' (A k) j = F (A k) j) → cfm A F fs → cfm A F' fs
  | [], _, _ => trivial
  | f :: r, hg, hc => by
    have hj : ∀ k, k ∈ [24, 25, 26, 27, 28] → F' (A k) r.length = F (A k) r.length := fun k hk => hg k hk r.length (by simp)
    refine ⟨?_, hc.2.cg (fun k hk j h3 => hg k hk j (by simp; omega))⟩
    rw [hj 24 (by decide), hj 25 (by decide), hj 26 (by decide), hj 27 (by decide), hj 28 (by decide)]
    exact hc.1
theorem cfm.at : ∀ {fs : List ckF} {i : Nat} {f' : ckF}, cfm A F fs → fs[i]? = some f' → i < fs.length ∧ (F (A 25) (fs.length - 1 - i)).toInt = fl_ f'
  | [], i, f', _, e => by simp at e
  | f :: r, 0, f', hc, e => by
    simp only [List.getElem?_cons_zero, Option.some.injEq] at e
    subst e
    exact ⟨by simp, by simp only [List.length_cons, Nat.add_sub_cancel, Nat.sub_zero]; exact hc.1.2.1⟩
  | f :: r, i + 1, f', hc, e => by
    simp only [List.getElem?_cons_succ] at e
    obtain ⟨h1, h2⟩ := hc.2.at e
    refine ⟨by simp only [List.length_cons]; omega, ?_⟩
    simp only [List.length_cons, Nat.add_sub_cancel]
    rw [show r.length - (i + 1) = r.length - 1 - i by omega]
    exact h2
/-- other numbers of the object -/
theorem zS.vj (hS : zS A F v cur fs g) (h1 : v' 22 = v 22) (h2 : v' 23 = v 23) (h3 : v' 29 = v 29) : zS A F v' cur fs g := by
  unfold zS
  rw [h1, h2, h3]
  exact hS
theorem zS.vg (hS : zS A F v cur fs g) (h1 : vg v v') : zS A F v' cur fs g := hS.vj (h1 22 (by decide) (by decide) (by decide) (by decide) (by decide)) (h1 23 (by decide) (by decide) (by decide) (by decide) (by decide)) (h1 29 (by decide) (by decide) (by decide) (by decide) (by decide))
theorem mB.kx (hB : mB own mm A h) {k kd n : Nat} (hm : (k, kd, n) ∈ aL) (hn : n ≠ 0) : xb_r h mm k = some (A k) ∧ xb_k h (A k) = kd ∧ xb_n h (A k) = n ∧ A k ≠ mm := by
  obtain ⟨g1, g2, g3, g4⟩ := hB.g hm
  exact ⟨g1, g2, g4.elim (fun h => absurd h hn) id, hB.nm ⟨_, hm, rfl⟩⟩
theorem z_i8 {x : Int32} (h0 : -128 ≤ x.toInt) (h1 : x.toInt ≤ 127) : (vp_nar .byte ((Int32.toInt8 x).toInt32)).toInt = x.toInt := by
  have e1 : (Int32.toInt8 x).toInt = x.toInt := by
    rw [Int32.toInt_toInt8, Int.bmod_eq_of_le (by omega) (by omega)]
  show ((Int32.toInt8 ((Int32.toInt8 x).toInt32)).toInt32).toInt = _
  rw [Int8.toInt_toInt32, Int32.toInt_toInt8, Int8.toInt_toInt32, e1, Int.bmod_eq_of_le (by omega) (by omega)]
theorem m_take {x : Int32} {Qr : Int32 → xb_H → Prop} (hB : mB own mm A h) (hS : zS A F v cur (f :: r) g) (hex : cur = ex ++ fb f) (hl : cur.length ≤ 60000) (hfl : (f :: r).length ≤ 201) (hx : x.toInt ≠ 64)
    (hQ : ∀ (u : Int32) (v' : Nat → Int32) (cur' ex' : List Int), (∀ j, j ≠ 17 → j ≠ 18 → j ≠ 22 → v' j = v j) → zS A F v' cur' (f :: r) g → cur' = ex' ++ fb f → (∀ y ∈ cur', y ∈ cur) → cur'.length ≤ cur.length → (u.toInt = 0 ∨ u.toInt ∈ cur) → (v' 17 = 0 → v 17 = 0 ∧ ck_tk f cur x.toInt u.toInt cur') → Qr u (mH h F mm v')) : w_M_take mm x (mH h F mm v) Qr := by
  obtain ⟨s1, s2, s3, s4, s5, s6, s7⟩ := id hS
  obtain ⟨⟨f1, f2, f3, f4, f5⟩, sr⟩ := id s5
  obtain ⟨a1, a2, a3, a4⟩ := hB.kx (k := 27) (kd := 102) (n := 202) (by decide) (by decide)
  obtain ⟨c1, c2, c3, c4⟩ := hB.kx (k := 21) (kd := 100) (n := 70000) (by decide) (by decide)
  obtain ⟨d1, d2, d3, d4⟩ := hB.kx (k := 28) (kd := 101) (n := 202) (by decide) (by decide)
  have e29 : (v 29 - 1).toInt = r.length := by
    rw [z_sub, s2]
    simp only [Int32.reduceToInt, List.length_cons] at hfl ⊢
    omega
  have c29 : (v 29 - 1).toNatClampNeg = r.length := by
    rw [z_cl, e29]
    omega
  simp only [List.length_cons] at hfl
  have in29 : ∀ n : Nat, 202 = n → vp_in (v 29 - 1) n := fun n hn => by
    rw [z_in, e29]
    omega
  unfold w_M_take
  rw [mH_i]
  refine ⟨hB.2.1, A 27, a1, a2, in29 _ a3.symm, ?_, ?_⟩
  · rw [mH_o a4, c29]
    intro hne h6 e6
    rw [mH_I] at e6
    subst e6
    have hne' : cur.length ≠ (fb f).length := fun e9 => hne (by rw [z_eq, s1, f4, e9])
    cases hc : ex with
    | nil =>
      rw [hc] at hex
      exact absurd (by rw [hex]; rfl) hne'
    | cons y ex2 =>
      rw [hc] at hex
      have e22 : (v 22 - 1).toInt = (ex2 ++ fb f).length := by
        rw [z_sub, s1, hex]
        rw [hex] at hl
        simp only [Int32.reduceToInt, List.length_cons, List.cons_append] at hl ⊢
        omega
      obtain ⟨w, hw⟩ : ∃ w : Nat → Int32, w = va_up v 22 (v 22 - 1) := ⟨_, rfl⟩
      rw [← hw]
      have wj : ∀ j, j ≠ 22 → w j = v j := fun j hj => by rw [hw, xh_up, if_neg hj]
      have w22 : (w 22).toInt = (ex2 ++ fb f).length := by rw [hw, xh_up, if_pos rfl]; exact e22
      rw [mH_i]
      have hS' : ∀ v2 : Nat → Int32, (∀ j, j ≠ 17 → j ≠ 18 → v2 j = w j) → zS A F v2 (ex2 ++ fb f) (f :: r) g := fun v2 h2 => by
        refine ⟨by rw [h2 22 (by decide) (by decide)]; exact w22, by rw [h2 29 (by decide) (by decide), wj 29 (by decide)]; exact s2, by rw [h2 23 (by decide) (by decide), wj 23 (by decide)]; exact s3, ?_, s5, s6, s7⟩
        rw [hex] at s4
        exact s4.2
      have hy : (F (A 21) (ex2 ++ fb f).length).toInt = y := by
        rw [hex] at s4
        exact s4.1
      refine ⟨A 21, c1, c2, ?_, fun v10 e10 => ?_⟩
      · rw [z_in, w22]
        show _ ∧ _ < ((xb_n h (A 21) : Nat) : Int)
        rw [hex] at hl
        simp only [List.length_cons, List.cons_append] at hl
        omega
      · rw [mH_o c4, z_cl, w22, Int.toNat_natCast] at e10
        have ey : v10.toInt = y := by rw [e10]; exact hy
        have mem : y ∈ cur := by rw [hex]; simp
        have sub : ∀ z ∈ ex2 ++ fb f, z ∈ cur := fun z hz => by rw [hex]; exact List.mem_cons_of_mem _ hz
        have len : (ex2 ++ fb f).length ≤ cur.length := by rw [hex]; simp
        have good : (x = 0 ∨ v10 = 0 ∨ v10 = x) → w_M_take_L87 Qr v10 (mH h F mm w) := fun hc => by
          unfold w_M_take_L87
          refine hQ v10 w (ex2 ++ fb f) ex2 (fun j _ _ j3 => wj j j3) (hS' w (fun _ _ _ => rfl)) rfl sub len (.inr (by rw [ey]; exact mem)) (fun hz => ⟨by rw [← wj 17 (by decide)]; exact hz, .inr (.inl ⟨hx, by rw [ey, hex]; rfl, by simp, ?_⟩)⟩)
          rw [ey]
          rcases hc with hc | hc | hc
          · exact .inr (.inr (by rw [hc]; rfl))
          · exact .inr (.inl (by rw [← ey, hc]; rfl))
          · exact .inl (by rw [← ey, hc])
        refine ⟨fun h0 => good (.inl h0), fun _ => ⟨fun h0 => good (.inr (.inl h0)), fun _ => ⟨fun h0 => good (.inr (.inr h0)), fun _ => m_fail hB.2.1 (by decide) (fun v' g1 g2 _ => ?_)⟩⟩⟩
        unfold w_M_take_L87
        exact hQ v10 v' (ex2 ++ fb f) ex2 (fun j j1 j2 j3 => (g1 j j1 j2).trans (wj j j3)) (hS' v' g1) rfl sub len (.inr (by rw [ey]; exact mem)) (fun hz => absurd hz g2)
  · rw [mH_o a4, c29]
    intro heq
    have hle : cur.length ≤ (fb f).length := by
      rw [z_eq, s1, f4] at heq
      omega
    refine ⟨A 28, d1, d2, in29 _ d3.symm, ?_, ?_⟩
    all_goals
      rw [mH_o d4]
      intro hd
    · unfold w_M_take_L42
      refine hQ 0 v cur ex (fun _ _ _ _ => rfl) hS hex (fun y hy => hy) (Nat.le_refl _) (.inl rfl) (fun hz => ⟨hz, .inr (.inr ⟨hx, hle, fun e9 => hd (by rw [z_eq, f5, e9]; rfl), rfl, rfl⟩)⟩)
    · unfold w_M_take_L42
      exact m_fail hB.2.1 (by decide) (fun v' g1 g2 _ => hQ 0 v' cur ex (fun j j1 j2 _ => g1 j j1 j2) (hS.vj (g1 22 (by decide) (by decide)) (g1 23 (by decide) (by decide)) (g1 29 (by decide) (by decide))) hex (fun y hy => hy) (Nat.le_refl _) (.inl rfl) (fun hz => absurd hz g2))
theorem m_put {x : Int32} {Qr : xb_H → Prop} (hB : mB own mm A h) (hS : zS A F v cur fs g) (hl : cur.length < 60000) (hx : -128 ≤ x.toInt ∧ x.toInt ≤ 127)
    (hQ : ∀ (v' : Nat → Int32) (w : Nat → Int32), (∀ j, j ≠ 22 → j ≠ 23 → v' j = v j) → zS A (va_up F (A 21) w) v' (x.toInt :: cur) fs (max g (cur.length + 1)) → Qr (mH h (va_up F (A 21) w) mm v')) : w_M_put mm x (mH h F mm v) Qr := by
  obtain ⟨s1, s2, s3, s4, s5, s6, s7⟩ := id hS
  obtain ⟨c1, c2, c3, c4⟩ := hB.kx (k := 21) (kd := 100) (n := 70000) (by decide) (by decide)
  unfold w_M_put
  rw [mH_i]
  refine ⟨hB.2.1, A 21, c1, c2, ?_, fun h5 e5 h6 e6 => ?_⟩
  · rw [z_in, s1]
    show _ ∧ _ < ((xb_n h (A 21) : Nat) : Int)
    omega
  rw [mH_A c4, z_cl, s1, Int.toNat_natCast] at e5
  subst e5
  rw [mH_i, mH_I] at e6
  subst e6
  have e22 : (v 22 + 1).toInt = (cur.length + 1 : Nat) := z_inc s1 (by omega)
  obtain ⟨w, hw⟩ : ∃ w : Nat → Int32, w = va_up (F (A 21)) cur.length (vp_nar .byte ((Int32.toInt8 x).toInt32)) := ⟨_, rfl⟩
  rw [← hw]
  have hS' : ∀ v2 : Nat → Int32, (∀ j, j ≠ 22 → j ≠ 23 → v2 j = v j) → (v2 22).toInt = (cur.length + 1 : Nat) → (v2 23).toInt = max g (cur.length + 1) → zS A (va_up F (A 21) w) v2 (x.toInt :: cur) fs (max g (cur.length + 1)) := fun v2 h2 h3 h4 => by
    refine ⟨by rw [h3]; rfl, by rw [h2 29 (by decide) (by decide)]; exact s2, h4, ?_, s5.cg (fun k hk j hj => ?_), by omega, by omega⟩
    · rw [xh_up F, if_pos rfl, hw]
      refine ⟨?_, s4.up (Nat.le_refl _)⟩
      rw [xh_up, if_pos rfl]
      exact z_i8 hx.1 hx.2
    · have : ∀ k, k ∈ [24, 25, 26, 27, 28] → (∃ e ∈ aL, e.1 = k) ∧ k ≠ 21 := by decide
      rw [xh_up F, if_neg (hB.ne (this k hk).1 (by decide) (this k hk).2)]
  unfold w_M_put_L44
  rw [mH_i]
  simp only [xb_up_s, xh_up v, if_neg (show ¬ (23 : Nat) = 22 by decide)]
  refine ⟨fun hle => ⟨hB.2.1, fun h2 e2 => ?_⟩, fun hle => ⟨hB.2.1, fun h2 e2 => ?_⟩⟩
  · rw [mH_I] at e2
    subst e2
    rw [z_le, e22, s3] at hle
    refine hQ _ w (fun j j1 j2 => by rw [xh_up, if_neg j2, xh_up, if_neg j1]) (hS' _ (fun j j1 j2 => by rw [xh_up, if_neg j2, xh_up, if_neg j1]) ?_ ?_)
    · rw [xh_up, if_neg (by decide), xh_up, if_pos rfl]
      exact e22
    · rw [xh_up, if_pos rfl, s3]
      omega
  · rw [mH_I] at e2
    subst e2
    rw [z_le, e22, s3] at hle
    refine hQ _ w (fun j j1 j2 => by rw [xh_up, if_neg j2, xh_up, if_neg j1]) (hS' _ (fun j j1 j2 => by rw [xh_up, if_neg j2, xh_up, if_neg j1]) ?_ ?_)
    · rw [xh_up, if_neg (by decide), xh_up, if_pos rfl]
      exact e22
    · rw [xh_up, if_pos rfl, e22]
      omega
theorem m_takeResult {x : Int32} {Qr : xb_H → Prop} (hB : mB own mm A h) (hS : zS A F v cur (f :: r) g) (hex : cur = ex ++ fb f) (hl : cur.length ≤ 60000) (hfl : (f :: r).length ≤ 201)
    (hQ : ∀ (rr : Int) (v' : Nat → Int32) (cur' ex' : List Int), (∀ j, j ≠ 17 → j ≠ 18 → j ≠ 22 → v' j = v j) → zS A F v' cur' (f :: r) g → cur' = ex' ++ fb f → (∀ y ∈ cur', y ∈ cur) → cur'.length ≤ cur.length → (v' 17 = 0 → v 17 = 0 ∧ ck_tk f cur x.toInt rr cur') → Qr (mH h F mm v')) : w_M_takeResult mm x (mH h F mm v) Qr := by
  unfold w_M_takeResult w_M_takeResult_L12
  refine ⟨fun h64 => hQ 64 v cur ex (fun _ _ _ _ => rfl) hS hex (fun _ h => h) (Nat.le_refl _) (fun hz => ⟨hz, .inl ⟨by rw [h64]; rfl, rfl, rfl⟩⟩), fun h64 => ⟨hB.2.1, m_take hB hS hex hl hfl (fun e9 => h64 (by rw [z_eq, e9]; rfl)) (fun u v' cur' ex' g1 g2 g3 g4 g5 _ g7 _ => hQ u.toInt v' cur' ex' g1 g2 g3 g4 g5 g7)⟩⟩
theorem m_putResult {x : Int32} {Qr : xb_H → Prop} (hB : mB own mm A h) (hS : zS A F v cur fs g) (hl : cur.length < 60000) (hx : -128 ≤ x.toInt ∧ x.toInt ≤ 127)
    (hQ : ∀ (v' : Nat → Int32) (F' : Nat → Nat → Int32) (cur' : List Int) (g' : Int), (∀ j, j ≠ 22 → j ≠ 23 → v' j = v j) → bF A F F' → zS A F' v' cur' fs g' → ck_pt cur g x.toInt cur' g' → Qr (mH h F' mm v')) : w_M_putResult mm x (mH h F mm v) Qr := by
  unfold w_M_putResult w_M_putResult_L11
  refine ⟨fun h64 => hQ v F cur g (fun _ _ _ => rfl) bF.rf hS (.inl ⟨by rw [h64]; rfl, rfl, rfl⟩), fun h64 => ⟨hB.2.1, m_put hB hS hl hx (fun v' w g1 g2 _ => hQ v' _ _ _ g1 (bF.up (by decide)) g2 (.inr ⟨fun e9 => h64 (by rw [z_eq, e9]; rfl), rfl, rfl⟩))⟩⟩
theorem m_dead {Qr : xb_H → Prop} (hB : mB own mm A h) (hS : zS A F v cur (f :: r) g) (hex : cur = ex ++ fb f) (hfl : (f :: r).length ≤ 201)
    (hQ : ∀ (v' : Nat → Int32) (w : Nat → Int32), (∀ j, j ≠ 22 → v' j = v j) → zS A (va_up F (A 28) w) v' (fb f) (fdie f :: r) g → Qr (mH h (va_up F (A 28) w) mm v')) : w_M_dead mm (mH h F mm v) Qr := by
  obtain ⟨s1, s2, s3, s4, s5, s6, s7⟩ := id hS
  obtain ⟨⟨f1, f2, f3, f4, f5⟩, sr⟩ := id s5
  obtain ⟨a1, a2, a3, a4⟩ := hB.kx (k := 27) (kd := 102) (n := 202) (by decide) (by decide)
  obtain ⟨d1, d2, d3, d4⟩ := hB.kx (k := 28) (kd := 101) (n := 202) (by decide) (by decide)
  have e29 : (v 29 - 1).toInt = r.length := by
    rw [z_sub, s2]
    simp only [Int32.reduceToInt, List.length_cons] at hfl ⊢
    omega
  have c29 : (v 29 - 1).toNatClampNeg = r.length := by
    rw [z_cl, e29]
    omega
  simp only [List.length_cons] at hfl
  unfold w_M_dead
  rw [mH_i]
  refine ⟨hB.2.1, A 27, a1, a2, by rw [z_in, e29]; show _ ∧ _ < ((xb_n h (A 27) : Nat) : Int); omega, fun h5 e5 => ?_⟩
  rw [mH_o a4, c29, mH_I] at e5
  subst e5
  rw [mH_i, xh_up, if_neg (by decide), c29]
  refine ⟨A 28, d1, d2, by rw [z_in, e29]; show _ ∧ _ < ((xb_n h (A 28) : Nat) : Int); omega, fun h9 e9 => ?_⟩
  rw [mH_A d4] at e9
  subst e9
  refine hQ _ _ (fun j hj => by rw [xh_up, if_neg hj]) ⟨?_, ?_, ?_, ?_, ⟨?_, ?_⟩, s6, s7⟩
  · rw [xh_up, if_pos rfl]; exact f4
  · rw [xh_up, if_neg (by decide)]; exact s2
  · rw [xh_up, if_neg (by decide)]; exact s3
  · rw [xh_up F, if_neg (hB.ne (by decide) (by decide) (by decide))]
    rw [hex] at s4
    exact s4.suf
  · rw [xh_up F, if_neg (hB.ne (by decide) (by decide) (by decide)), xh_up F, if_neg (hB.ne (by decide) (by decide) (by decide)), xh_up F, if_neg (hB.ne (by decide) (by decide) (by decide)), xh_up F, if_neg (hB.ne (by decide) (by decide) (by decide)), xh_up F, if_pos rfl, xh_up, if_pos rfl]
    exact ⟨f1, f2, f3, f4, rfl⟩
  · refine sr.cg (fun k hk j hj => ?_)
    rw [xh_up F]
    split
    · rename_i e8
      have : ∀ k, k ∈ [24, 25, 26, 27, 28] → (∃ e ∈ aL, e.1 = k) := by decide
      have ek : k = 28 := Classical.byContradiction (fun h9 => hB.ne (this k hk) (by decide) h9 e8)
      subst ek
      rw [xh_up, if_neg (by omega)]
    · rfl
theorem m_begin {x1 x2 x3 : Int32} {o : Int} {lv : Bool} {Qr : xb_H → Prop} (hB : mB own mm A h) (hS : zS A F v cur fs g) (hfl : fs.length ≤ 201) (hl : cur.length ≤ 60000)
    (hQ : ∀ (v' : Nat → Int32) (F' : Nat → Nat → Int32), (∀ j, j ≠ 29 → v' j = v j) → bF A F F' → zS A F' v' cur ((x1.toInt, o, x2.toInt, x3.toInt, cur, 0, lv) :: fs) g → Qr (mH h F' mm v')) : w_M_begin mm x1 x2 x3 (mH h F mm v) Qr := by
  obtain ⟨s1, s2, s3, s4, s5, s6, s7⟩ := id hS
  obtain ⟨a1, a2, a3, a4⟩ := hB.kx (k := 24) (kd := 102) (n := 202) (by decide) (by decide)
  obtain ⟨b1, b2, b3, b4⟩ := hB.kx (k := 25) (kd := 102) (n := 202) (by decide) (by decide)
  obtain ⟨c1, c2, c3, c4⟩ := hB.kx (k := 26) (kd := 102) (n := 202) (by decide) (by decide)
  obtain ⟨d1, d2, d3, d4⟩ := hB.kx (k := 27) (kd := 102) (n := 202) (by decide) (by decide)
  obtain ⟨e1, e2, e3, e4⟩ := hB.kx (k := 28) (kd := 101) (n := 202) (by decide) (by decide)
  have cl : (v 29).toNatClampNeg = fs.length := by
    rw [z_cl, s2]
    omega
  have inn : ∀ n : Nat, n = 202 → vp_in (v 29) n := fun n hn => by
    rw [z_in, s2]
    omega
  unfold w_M_begin
  rw [mH_i]
  refine ⟨hB.2.1, A 24, a1, a2, inn _ a3, fun h5 q5 => ?_⟩
  rw [mH_A a4, cl] at q5; subst q5
  rw [mH_i]
  refine ⟨A 25, b1, b2, inn _ b3, fun h9 q9 => ?_⟩
  rw [mH_A b4, cl] at q9; subst q9
  rw [mH_i]
  refine ⟨A 26, c1, c2, inn _ c3, fun h13 q13 => ?_⟩
  rw [mH_A c4, cl] at q13; subst q13
  rw [mH_i]
  refine ⟨A 27, d1, d2, inn _ d3, fun h17 q17 => ?_⟩
  rw [mH_A d4, cl] at q17; subst q17
  rw [mH_i]
  refine ⟨A 28, e1, e2, inn _ e3, fun h21 q21 h22 q22 => ?_⟩
  rw [mH_A e4, cl] at q21; subst q21
  rw [mH_i, mH_I] at q22; subst q22
  have ne : ∀ j k, j ≠ k → j ∈ b7 → k ∈ b7 → A j ≠ A k := fun j k hjk hj hk => by
    have : ∀ k, k ∈ b7 → (∃ e ∈ aL, e.1 = k) := by decide
    exact hB.ne (this j hj) (this k hk) hjk
  have U : ∀ (G : Nat → Nat → Int32) (j k : Nat) (w : Nat → Int32), j ≠ k → j ∈ b7 → k ∈ b7 → va_up G (A k) w (A j) = G (A j) := fun G j k w h1 h2 h3 => by rw [xh_up, if_neg (ne j k h1 h2 h3)]
  refine hQ _ _ (fun j hj => by rw [xh_up, if_neg hj]) ((((bF.up (by decide)).tr (bF.up (by decide))).tr (bF.up (by decide))).tr ((bF.up (by decide)).tr (bF.up (by decide)))) ⟨?_, ?_, ?_, ?_, ⟨?_, s5.cg (fun k hk j hj => ?_)⟩, s6, s7⟩
  · rw [xh_up, if_neg (by decide)]; exact s1
  · rw [xh_up, if_pos rfl]
    exact z_inc s2 (by omega)
  · rw [xh_up, if_neg (by decide)]; exact s3
  · rw [U _ 21 28 _ (by decide) (by decide) (by decide), U _ 21 27 _ (by decide) (by decide) (by decide), U _ 21 26 _ (by decide) (by decide) (by decide), U _ 21 25 _ (by decide) (by decide) (by decide), U _ 21 24 _ (by decide) (by decide) (by decide)]
    exact s4
  · refine ⟨?_, ?_, ?_, ?_, ?_⟩
    · rw [U _ 24 28 _ (by decide) (by decide) (by decide), U _ 24 27 _ (by decide) (by decide) (by decide), U _ 24 26 _ (by decide) (by decide) (by decide), U _ 24 25 _ (by decide) (by decide) (by decide), xb_up_s, xb_up_s]
      rfl
    · rw [U _ 25 28 _ (by decide) (by decide) (by decide), U _ 25 27 _ (by decide) (by decide) (by decide), U _ 25 26 _ (by decide) (by decide) (by decide), xb_up_s, xb_up_s]
      rfl
    · rw [U _ 26 28 _ (by decide) (by decide) (by decide), U _ 26 27 _ (by decide) (by decide) (by decide), xb_up_s, xb_up_s]
      rfl
    · rw [U _ 27 28 _ (by decide) (by decide) (by decide), xb_up_s, xb_up_s]
      exact s1
    · rw [xb_up_s, xb_up_s]
      rfl
  · have hj' : j ≠ fs.length := by omega
    simp only [List.mem_cons, List.mem_nil_iff, or_false] at hk
    rcases hk with e | e | e | e | e <;> subst e
    · rw [U _ 24 28 _ (by decide) (by decide) (by decide), U _ 24 27 _ (by decide) (by decide) (by decide), U _ 24 26 _ (by decide) (by decide) (by decide), U _ 24 25 _ (by decide) (by decide) (by decide), xb_up_s, xh_up, if_neg hj']
    · rw [U _ 25 28 _ (by decide) (by decide) (by decide), U _ 25 27 _ (by decide) (by decide) (by decide), U _ 25 26 _ (by decide) (by decide) (by decide), xb_up_s, xh_up, if_neg hj', U _ 25 24 _ (by decide) (by decide) (by decide)]
    · rw [U _ 26 28 _ (by decide) (by decide) (by decide), U _ 26 27 _ (by decide) (by decide) (by decide), xb_up_s, xh_up, if_neg hj', U _ 26 25 _ (by decide) (by decide) (by decide), U _ 26 24 _ (by decide) (by decide) (by decide)]
    · rw [U _ 27 28 _ (by decide) (by decide) (by decide), xb_up_s, xh_up, if_neg hj', U _ 27 26 _ (by decide) (by decide) (by decide), U _ 27 25 _ (by decide) (by decide) (by decide), U _ 27 24 _ (by decide) (by decide) (by decide)]
    · rw [xb_up_s, xh_up, if_neg hj', U _ 28 27 _ (by decide) (by decide) (by decide), U _ 28 26 _ (by decide) (by decide) (by decide), U _ 28 25 _ (by decide) (by decide) (by decide), U _ 28 24 _ (by decide) (by decide) (by decide)]
theorem m_need {x1 x2 : Int32} {Qr : xb_H → Prop} (hk : xb_k h mm = 9) (hc : x2 ≠ 0) (hQ : ∀ v' : Nat → Int32, (∀ j, j ≠ 17 → j ≠ 18 → v' j = v j) → (v' 17 = 0 → v 17 = 0 ∧ x1 ≠ 0) → (x1 ≠ 0 → v' = v) → Qr (mH h F mm v')) : w_M_need mm x1 x2 (mH h F mm v) Qr := by
  unfold w_M_need w_M_need_L13
  exact ⟨fun hn => hQ v (fun _ _ _ => rfl) (fun hz => ⟨hz, hn⟩) (fun _ => rfl), fun h0 => ⟨hk, m_fail hk hc (fun v' g1 g2 _ => hQ v' g1 (fun hz => absurd hz g2) (fun hn => absurd h0 hn))⟩⟩
end MK3
