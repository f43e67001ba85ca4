-- linking: all imports
/-- the host's function that an import's name means -/
def hoX (d : mD) (k x : Nat) : Prop := (dvs d 1 (7 * k + 6)).toInt = 1 ∧ dcb d (dvs d 1 (7 * k + 5)).toInt.toNat = xb_cHX.getD x 0
/-- an import of the host: how it ends, what it means -/
def luH (W : wD) (d : mD) (k : Nat) (r : Int32) (v : Nat) : Prop :=
  (r = 42 ∧ ∀ x, x < 4 → ¬ hoX d k x) ∨ ∃ x, x < 4 ∧ hoX d k x ∧ ((r = 43 ∧ ¬ ((dvs d 1 (7 * k + 1)).toInt = 0 ∧ fT W (8192 + x) = ftm d (mcnt (dvs d 1) 0 k))) ∨ (r = 0 ∧ (dvs d 1 (7 * k + 1)).toInt = 0 ∧ fT W (8192 + x) = ftm d (mcnt (dvs d 1) 0 k) ∧ v = 8192 + x))
/-- an import names the host -/
def hstN (d : mD) (k : Nat) : Prop := (dvs d 1 (7 * k + 4)).toInt = 4 ∧ ∀ t, t < 4 → dcb d ((dvs d 1 (7 * k + 3)).toInt.toNat + t) = xb_cHN.getD t 0
/-- an import: how it ends, what it means -/
def luR (ad : Nat → Nat) (h : xb_H) (W : wD) (d : mD) (k : Nat) (r : Int32) (v : Nat) : Prop :=
  (hstN d k ∧ luH W d k r v) ∨ (¬ hstN d k ∧ ∃ nn : Nat, (xb_i h (ad 29) 1).toInt = (3 * nn : Nat) ∧
    ((r = 41 ∧ nmR ad h nn (dcb d) (dvs d 1 (7 * k + 3)).toInt.toNat (dvs d 1 (7 * k + 4)).toInt.toNat (-1)) ∨
     ∃ (r0 : Int32) (i : Nat), r0.toInt = i ∧ i < wic W ∧ nmR ad h nn (dcb d) (dvs d 1 (7 * k + 3)).toInt.toNat (dvs d 1 (7 * k + 4)).toInt.toNat r0 ∧
      ((r = 42 ∧ exN (wd W i) (dcb d) (dvs d 1 (7 * k + 5)).toInt.toNat (dvs d 1 (7 * k + 6)).toInt.toNat (-1)) ∨
       ∃ (r1 : Int32) (e : Nat), r1.toInt = e ∧ e < dn (wd W i) 6 / 5 ∧ exN (wd W i) (dcb d) (dvs d 1 (7 * k + 5)).toInt.toNat (dvs d 1 (7 * k + 6)).toInt.toNat r1 ∧
        ((r = 43 ∧ ((dvs (wd W i) 6 (5 * e + 1)).toInt ≠ (dvs d 1 (7 * k + 1)).toInt ∨ ∀ v, ¬ tkF h W d k (dvs d 1 (7 * k + 1)).toInt.toNat i (dvs (wd W i) 6 (5 * e + 2)).toInt.toNat v)) ∨
         (r = 0 ∧ (dvs (wd W i) 6 (5 * e + 1)).toInt = (dvs d 1 (7 * k + 1)).toInt ∧ tkF h W d k (dvs d 1 (7 * k + 1)).toInt.toNat i (dvs (wd W i) 6 (5 * e + 2)).toInt.toNat v)))))
section W6
variable {own own' ad ad' : Nat → Nat} {h h' : xb_H} {W : wD} {σ : Nat}
theorem mo_exportNamed {md b at_ ln : Nat} {d : mD} {x2 x3 : Int32} {Qr : Int32 → xb_H → Prop} (hm : mo own h md d) (kb : xb_k h b = 100) (hx2 : x2.toInt = at_) (hx3 : x3.toInt = ln) (hl : at_ + ln ≤ xb_n h b) (hb : xb_n h b ≤ 1000000) (hQ : ∀ r : Int32, exN d (xb_i h b) at_ ln r → Qr r h) : w_StackModule_exportNamed md b x2 x3 h Qr := by
  have hv := hm.2.1
  have h4 := hv.2.2.2.2.2.2.2.2.2.2.2.1 6 (by omega)
  unfold w_StackModule_exportNamed
  refine ⟨hm.1.k, _, hm.1.row (k := 6) (by omega), hm.1.krow (by omega), md_lines hm.1 (k := 6) (c := 5) (by omega) rfl (by omega) (fun r5 e5 _ => y_exportNamedBelow hm.1 hv.2.2.2.2.2.2.1.1 h4 (by omega) kb hx2 hx3 (by omega) (by omega) (fun r hr _ => hQ r ?_))⟩
  rw [e5] at hr
  rcases hr with ⟨h1, h2⟩ | ⟨i, h1, h2, h3, h5⟩
  · exact .inl ⟨h1, fun j hj => h2 j (by omega)⟩
  · exact .inr ⟨i, h1, by omega, h3, h5⟩
/-- an export's line -/
theorem mo.exp {md e : Nat} {d : mD} (hm : mo own h md d) (he : e < dn d 6 / 5) : 5 * e + 5 ≤ dn d 6 ∧ ∃ κ num : Nat, κ < 4 ∧ (dvs d 6 (5 * e + 1)).toInt = κ ∧ (dvs d 6 (5 * e + 2)).toInt = num ∧ num ≤ 1000000 ∧ (κ = 0 → num < nf d) ∧ (κ = 1 → num < dn d 3 / 3) ∧ (κ = 2 → num < dn d 4 / 3) ∧ (κ = 3 → num < nvr d) := by
  have hv := hm.2.1
  obtain ⟨l1, l2⟩ := hv.2.2.2.2.2.2.1
  obtain ⟨⟨p1, p2, p3, p4, p5, p6, p7, p8, p9⟩, p10⟩ := l1.at (by omega) he
  dsimp only at p1 p2 p3 p4 p5 p6 p7 p8 p9
  obtain ⟨q0, q1, q2, q3⟩ := l2 e he
  have h4 := hv.2.2.2.2.2.2.2.2.2.2.2.1
  have h5 := hv.2.2.2.2.2.2.2.2.2.2.2.2.1
  have n2 := h4 2 (by omega)
  have n3 := h4 3 (by omega)
  have n4 := h4 4 (by omega)
  have n5 := h4 5 (by omega)
  obtain ⟨κ, hκ⟩ : ∃ κ : Nat, (dvs d 6 (5 * e + 1)).toInt = κ := ⟨_, (Int.toNat_of_nonneg p3).symm⟩
  obtain ⟨num, hnum⟩ : ∃ num : Nat, (dvs d 6 (5 * e + 2)).toInt = num := ⟨_, (Int.toNat_of_nonneg p5).symm⟩
  rw [hκ, hnum] at q0 q1 q2 q3
  unfold nf nvr
  have hk4 : κ < 4 := by omega
  refine ⟨p10, κ, num, hk4, hκ, hnum, ?_, fun h => by have := q0 (by omega); omega, fun h => by have := q1 (by omega); omega, fun h => by have := q2 (by omega); omega, fun h => by have := q3 (by omega); omega⟩
  have : κ = 0 ∨ κ = 1 ∨ κ = 2 ∨ κ = 3 := by omega
  rcases this with e9 | e9 | e9 | e9
  · have := q0 (by omega); omega
  · have := q1 (by omega); omega
  · have := q2 (by omega); omega
  · have := q3 (by omega); omega
theorem wI_lookUpAtHost {md k rc rs bc bs : Nat} {d : mD} {x2 : Int32} {Qr : Int32 → xb_H → Nat → Nat → Prop} (hB : cB own ad h) (hW : wI own ad h W σ) (hm : mo own h md d) (hS : lkS own ad h W d k) (hx2 : x2.toInt = k) (hk : k < dn d 1 / 7) (hg : bg ad h rc rs bc bs)
    (hQ : ∀ (h' : xb_H) (own' ad' : Nat → Nat) (r : Int32) (bc' bs' : Nat), lkR own ad own' ad' h h' → wI own' ad' h' W σ → ((r ≠ 0 ∧ luH W d k r 0) ∨ (r = 0 ∧ lkS own' ad' h' W d (k + 1) ∧ ∃ v, luH W d k r v ∧ lkI ad' h' d (dvs d 1 (7 * k + 1)).toInt.toNat k v ∧ lkE ad h ad' h' d k)) → bg ad' h' rc rs bc' bs' → Qr r h' bc' bs') : w_World_lookUpAtHost (ad 14) md x2 h bc bs Qr := by
  obtain ⟨κ, c1, c2, c3, c4, c5, c6, c7, c8, c9⟩ := hm.imp hk
  obtain ⟨n1, n2, n3, n4, n5, n6, n7, n8⟩ := hm.nn
  have k14 : xb_k h (ad 14) = 7 := hB.k 14 (by omega)
  obtain ⟨a1, a2, a3, a4, a5⟩ := hm.1.1
  have mid := mcnt_id (v := dvs d 1) (κ := (κ : Int)) k
  have bad : ∀ r : Int32, ¬ r = 0 → luH W d k r 0 → Qr r h bc bs := fun r hr hl => hQ h own ad r bc bs (lkR.rf hB) hW (.inl ⟨hr, hl⟩) hg
  have fin : ∀ x3 : Int32, x3 = -1 ∨ (∃ x : Nat, x3.toInt = x ∧ x < 4 ∧ hoX d k x) → (¬ x3 = ((-1) : Int32) → xb_k h md = 3 ∧ ∃ b5 : Nat, (xb_r h md 3) = some b5 ∧ xb_k h b5 = 2 ∧ w_Row_at b5 x2 1 h (fun (r8 : Int32) (h7 : xb_H) => xb_ext h h7 → ((r8 = (0 : Int32) → ∃ b10 : Nat, (xb_r h7 md 3) = some b10 ∧ xb_k h7 b10 = 2 ∧ w_Row_at b10 x2 2 h7 (fun (r13 : Int32) (h12 : xb_H) => xb_ext h7 h12 → w_StackModule_typeOf md r13 h12 (fun (r15 : Int32) (h14 : xb_H) => xb_ext h12 h14 → xb_k h14 (ad 14) = 7 ∧ w_World_fits (ad 14) (8192 + x3) md r15 h14 (fun (r18 : Int32) (h17 : xb_H) => xb_ext h14 h17 → ((¬ r18 = (0 : Int32) → ∃ b20 : Nat, (xb_r h17 (ad 14) 12) = some b20 ∧ xb_k h17 b20 = 2 ∧ w_Row_add b20 (Int32.toInt64 (8192 + x3)) h17 bc bs (fun (h22 : xb_H) (bc23 bs23 : Nat) => xb_ext h17 h22 → Qr 0 h22 bc23 bs23)) ∧ (r18 = (0 : Int32) → Qr 43 h17 bc bs)))))) ∧ (¬ r8 = (0 : Int32) → Qr 43 h7 bc bs)))) := by
    intro x3 hx3 hne
    obtain ⟨xx, h3x, h3l, h3h⟩ : ∃ x : Nat, x3.toInt = x ∧ x < 4 ∧ hoX d k x := by
      rcases hx3 with e | e
      · exact absurd e hne
      · exact e
    obtain ⟨f, hf⟩ : ∃ f : Nat, (8192 + x3).toInt = f ∧ 8192 ≤ f ∧ f < 8196 := by
      refine ⟨(8192 + x3).toInt.toNat, ?_⟩
      have e0 : (8192 : Int32).toInt = 8192 := rfl
      have e1 : (8192 + x3).toInt = 8192 + x3.toInt := by rw [z_add, e0]; omega
      omega
    refine ⟨a1, _, hm.1.row (k := 1) (by omega), hm.1.krow (by omega), md_at (c := 7) hm.1 (i := k) (j := 1) (by omega) rfl hx2 rfl (by omega) c5 (fun r8 e8 _ => ⟨fun e => ⟨_, hm.1.row (k := 1) (by omega), hm.1.krow (by omega), md_at (c := 7) hm.1 (i := k) (j := 2) (by omega) rfl hx2 rfl (by omega) c5 (fun r13 e13 _ => ?_)⟩, fun e => bad 43 (by decide) (.inr ⟨xx, h3l, h3h, .inl ⟨rfl, fun h9 => e (z_eq.mpr (by rw [e8]; have := h9.1; simp only [Int32.reduceToInt]; omega))⟩⟩)⟩)⟩
    have efx : f = 8192 + xx := by
      have e0 : (8192 : Int32).toInt = 8192 := rfl
      have e1 : (8192 + x3).toInt = 8192 + x3.toInt := by rw [z_add, e0]; omega
      omega
    have f8 : r8.toInt = κ := by omega
    have f13 : r13.toInt = mcnt (dvs d 1) κ k := by omega
    rw [z_eq, f8] at e
    simp only [Int32.reduceToInt] at e
    have e0 : κ = 0 := by omega
    subst e0
    have mid : mcnt (dvs d 1) 0 k ≤ k := mid
    have f13 : r13.toInt = mcnt (dvs d 1) 0 k := f13
    have c4 : mcnt (dvs d 1) 0 k < ni d 0 := c4
    have hκ : (dvs d 1 (7 * k + 1)).toInt = 0 := c2
    obtain ⟨u1, u2, u3, -⟩ := hm.fn (k := mcnt (dvs d 1) 0 k) (by omega)
    refine mo_typeOf hm f13 (by omega) (fun r15 e15 _ => ⟨k14, wI_fits hB hW.1 hW.2.2.2.2.2.2.1 hm hf.1 (.inr hf.2) e15 u3 (fun r hr _ => ⟨fun hr2 => ⟨ad 32, hB.r (14, 12, 32) (by decide), hB.k 32 (by omega), wr_add (r := 32) (by decide) hB hS.1.1 (by show _ < 20000; omega) hg (fun h17 q bc' bs' w1 w2 w3 w4 w5 w6 w7 w8 _ => ?_)⟩, fun hr2 => bad 43 (by decide) (.inr ⟨xx, h3l, h3h, .inl ⟨rfl, fun h9 => ?_⟩⟩)⟩)⟩)
    rotate_left
    · rcases hr with ⟨-, hr⟩ | ⟨hr, -⟩
      · apply hr
        rw [efx]
        exact h9.2
      · rw [hr2] at hr
        exact absurd hr (by decide)
    have hft : fT W f = ftm d (mcnt (dvs d 1) 0 k) := by
      rcases hr with ⟨hr, -⟩ | ⟨-, hr⟩
      · exact absurd hr hr2
      · exact hr
    have hR := lkR.add (r := 32) (.inl rfl) hB w1 w5 w6 w7
    have hs34 := w6 (ad 34) (hB.z 34 (by omega)) (hB.ne (by omega) (by omega) (by omega)) (hB.ne (by omega) (by omega) (by omega))
    have hWG : wG (va_up ad 33 q) h17 := by
      obtain ⟨-, n2', g2'⟩ := hW.2.2.2.2.2.2.2.1
      refine ⟨⟨mcnt (dvs d 1) 0 k + 1, ?_⟩, n2', ?_⟩
      · rw [xh_up, if_neg (by omega), xh_up, if_pos rfl]
        exact w2
      · rw [xh_up, if_neg (by omega), xh_up, if_neg (by omega)]
        exact g2'.fr hs34 w7
    have s14' := w6 (ad 14) (hB.z 14 (by omega)) (hB.ne (by omega) (by omega) (by omega)) (hB.ne (by omega) (by omega) (by omega))
    have s35' := w6 (ad 35) (hB.z 35 (by omega)) (hB.ne (by omega) (by omega) (by omega)) (hB.ne (by omega) (by omega) (by omega))
    refine hQ h17 _ _ 0 bc' bs' hR (hW.lk hB hR hWG) (.inr ⟨rfl, hS.addF (f := f) hB hR w2 w3 ?_ (.inr hf.2) hft w6 hκ, f, .inr ⟨xx, h3l, h3h, .inr ⟨rfl, hκ, by rw [← efx]; exact hft, efx⟩⟩, ⟨fun _ => ?_, fun h9 => by rw [hκ] at h9; simp at h9, fun h9 => by rw [hκ] at h9; simp at h9, fun h9 => by rw [hκ] at h9; simp at h9⟩, fun j hj => ?_, fun j _ => ?_, fun _ => ?_, fun _ => ?_, ?_⟩) w8
    · rw [w4, Z_of32]
      exact hf.1
    · show (xb_l h17 (va_up ad 33 q 33) _).toInt = f
      rw [xh_up, if_pos rfl, w4, Z_of32]
      exact hf.1
    · show xb_l h17 (va_up ad 33 q 33) j = _
      rw [xh_up, if_pos rfl]
      exact w3 j hj
    · show xb_l h17 (va_up ad 33 q 35) j = _
      rw [xh_up, if_neg (by omega), s35'.2.1]
    · show xb_r h17 (va_up ad 33 q 14) 14 = _
      rw [xh_up, if_neg (by omega), s14'.2.2]
    · show xb_r h17 (va_up ad 33 q 14) 15 = _
      rw [xh_up, if_neg (by omega), s14'.2.2]
    · show xb_i h17 (va_up ad 33 q 14) = _
      rw [xh_up, if_neg (by omega), s14'.1]
  have fn : ∀ {x3 x4 : Int32}, ((x3 = -1 ∧ ∀ x : Nat, (x : Int) < x4.toInt → ¬ hoX d k x) ∨ (∃ x : Nat, x3.toInt = x ∧ (x : Int) < x4.toInt ∧ hoX d k x)) → x4.toInt ≤ 4 → x3 = -1 ∨ (∃ x : Nat, x3.toInt = x ∧ x < 4 ∧ hoX d k x) := fun g1 g3 => by
    rcases g1 with ⟨h9, -⟩ | ⟨x, h7, h8, h9⟩
    · exact .inl h9
    · exact .inr ⟨x, h7, by omega, h9⟩
  have fb : ∀ {x3 x4 : Int32}, ((x3 = -1 ∧ ∀ x : Nat, (x : Int) < x4.toInt → ¬ hoX d k x) ∨ (∃ x : Nat, x3.toInt = x ∧ (x : Int) < x4.toInt ∧ hoX d k x)) → x3 = -1 → 4 ≤ x4.toInt → ∀ x, x < 4 → ¬ hoX d k x := fun g1 e9 g4 x hx => by
    rcases g1 with ⟨-, h9⟩ | ⟨x, h7, h8, h9⟩
    · exact h9 x (by omega)
    · rw [e9] at h7
      have : (-1 : Int32).toInt = -1 := rfl
      omega
  have key : ∀ (m : Nat) (x3 x4 : Int32), ((x3 = -1 ∧ ∀ x : Nat, (x : Int) < x4.toInt → ¬ hoX d k x) ∨ (∃ x : Nat, x3.toInt = x ∧ (x : Int) < x4.toInt ∧ hoX d k x)) → 0 ≤ x4.toInt → x4.toInt ≤ 4 → 4 - x4.toInt ≤ m → w_World_lookUpAtHost_L5 Qr (m + 1) (ad 14) md x2 x3 x4 h bc bs := by
    intro m
    induction m with
    | zero =>
      intro x3 x4 g1 g2 g3 g4
      unfold w_World_lookUpAtHost_L5
      refine ⟨fun _ => ⟨fin x3 (fn g1 g3), fun e9 => bad 42 (by decide) (.inl ⟨rfl, fb g1 e9 (by omega)⟩)⟩, fun e => ?_⟩
      rw [z_le] at e
      simp only [Int32.reduceToInt] at e
      omega
    | succ m ih =>
      intro x3 x4 g1 g2 g3 g4
      unfold w_World_lookUpAtHost_L5 w_World_lookUpAtHost_L54
      refine ⟨fun e4 => ⟨fin x3 (fn g1 g3), fun e9 => bad 42 (by decide) (.inl ⟨rfl, fb g1 e9 (by rw [z_le] at e4; simp only [Int32.reduceToInt] at e4; omega)⟩)⟩, fun e => ⟨a1, _, hm.1.row (k := 1) (by omega), hm.1.krow (by omega), ?_⟩⟩
      rw [z_le] at e
      simp only [Int32.reduceToInt] at e
      have e1 : (x4 + 1).toInt = x4.toInt + 1 := by rw [z_add]; simp only [Int32.reduceToInt]; omega
      have st : ¬ hoX d k x4.toInt.toNat → ((x3 = -1 ∧ ∀ x : Nat, (x : Int) < (x4 + 1).toInt → ¬ hoX d k x) ∨ (∃ x : Nat, x3.toInt = x ∧ (x : Int) < (x4 + 1).toInt ∧ hoX d k x)) := fun hno => by
        rcases g1 with ⟨h9, h8⟩ | ⟨x, h7, h8, h9⟩
        · refine .inl ⟨h9, fun x hx => ?_⟩
          by_cases hxx : (x : Int) < x4.toInt
          · exact h8 x hxx
          · rw [show x = x4.toInt.toNat by omega]
            exact hno
        · exact .inr ⟨x, h7, by omega, h9⟩
      have nx : ∀ x3 : Int32, ((x3 = -1 ∧ ∀ x : Nat, (x : Int) < (x4 + 1).toInt → ¬ hoX d k x) ∨ (∃ x : Nat, x3.toInt = x ∧ (x : Int) < (x4 + 1).toInt ∧ hoX d k x)) → w_World_lookUpAtHost_L5 Qr (m + 1) (ad 14) md x2 x3 (x4 + 1) h bc bs := fun x3 hx => ih x3 (x4 + 1) hx (by omega) (by omega) (by omega)
      refine md_at (c := 7) hm.1 (i := k) (j := 6) (by omega) rfl hx2 rfl (by omega) c5 (fun r28 e28 _ => ⟨fun e2 => nx x3 (st (fun h9 => e2 (z_eq.mpr (by rw [e28]; have := h9.1; simp only [Int32.reduceToInt]; omega)))), fun e2 => ⟨_, a2, _, hm.1.row (k := 1) (by omega), hm.1.krow (by omega), md_at (c := 7) hm.1 (i := k) (j := 5) (by omega) rfl hx2 rfl (by omega) c5 (fun r34 e34 _ => ⟨a3, ?_, ?_, fun e9 => nx x3 (st (fun h9 => e9 ?_)), fun e9 => nx x4 (.inr ⟨x4.toInt.toNat, by omega, by omega, ?_, ?_⟩)⟩)⟩⟩)
      rotate_left 2
      · rw [a5, z_cl, z_cl, show r34.toInt = (dvs d 1 (7 * k + 5)).toInt by omega]
        exact h9.2
      · rw [z_eq] at e2
        simp only [Int32.reduceToInt] at e2
        omega
      · rw [a5, z_cl, z_cl, show r34.toInt = (dvs d 1 (7 * k + 5)).toInt by omega] at e9
        exact e9
      · rw [z_eq] at e2
        simp only [Int32.reduceToInt] at e2
        rw [z_in, a4]
        omega
      · rw [z_in]
        omega
  unfold w_World_lookUpAtHost
  exact ⟨6, key 5 (-1) 0 (.inl ⟨rfl, fun x hx => by simp only [Int32.reduceToInt] at hx; omega⟩) (by decide) (by decide) (by decide)⟩
theorem wI_lookUp {md k rc rs bc bs : Nat} {d : mD} {x2 : Int32} {Qr : Int32 → xb_H → Nat → Nat → Prop} (hB : cB own ad h) (hW : wI own ad h W σ) (hm : mo own h md d) (hS : lkS own ad h W d k) (hx2 : x2.toInt = k) (hk : k < dn d 1 / 7) (hg : bg ad h rc rs bc bs)
    (hQ : ∀ (h' : xb_H) (own' ad' : Nat → Nat) (r : Int32) (bc' bs' : Nat), lkR own ad own' ad' h h' → wI own' ad' h' W σ → ((r ≠ 0 ∧ luR ad h W d k r 0) ∨ (r = 0 ∧ lkS own' ad' h' W d (k + 1) ∧ ∃ v, luR ad h W d k r v ∧ lkI ad' h' d (dvs d 1 (7 * k + 1)).toInt.toNat k v ∧ lkE ad h ad' h' d k)) → bg ad' h' rc rs bc' bs' → Qr r h' bc' bs') : w_World_lookUp σ (ad 14) md x2 h bc bs Qr := by
  obtain ⟨κ, c1, c2, c3, c4, c5, c6, c7, c8, c9⟩ := hm.imp hk
  have k14 : xb_k h (ad 14) = 7 := hB.k 14 (by omega)
  obtain ⟨a1, a2, a3, a4, a5⟩ := hm.1.1
  obtain ⟨l1, l2, l3, l4⟩ := hW.2.2.2.2.2.2.1
  have bad : ∀ r : Int32, ¬ r = 0 → luR ad h W d k r 0 → Qr r h bc bs := fun r hr hl => hQ h own ad r bc bs (lkR.rf hB) hW (.inl ⟨hr, hl⟩) hg
  unfold w_World_lookUp
  refine ⟨a1, _, hm.1.row (k := 1) (by omega), hm.1.krow (by omega), md_at (c := 7) hm.1 (i := k) (j := 3) (by omega) rfl hx2 rfl (by omega) c5 (fun r5 e5 _ => md_at (c := 7) hm.1 (i := k) (j := 4) (by omega) rfl hx2 rfl (by omega) c5 (fun r7 e7 _ => ?_))⟩
  obtain ⟨at1, f5⟩ : ∃ a : Nat, r5.toInt = a := ⟨r5.toInt.toNat, by omega⟩
  obtain ⟨ln1, f7⟩ : ∃ a : Nat, r7.toInt = a := ⟨r7.toInt.toNat, by omega⟩
  have eat1 : (dvs d 1 (7 * k + 3)).toInt.toNat = at1 := by omega
  have eln1 : (dvs d 1 (7 * k + 4)).toInt.toNat = ln1 := by omega
  have L55 : ¬ hstN d k → w_World_lookUp_L55 σ Qr (ad 14) md x2 (drw d 1) r5 r7 h bc bs := by
    intro hnh
    unfold w_World_lookUp_L55 w_World_lookUp_L183
    refine ⟨a1, _, a2, k14, wI_instanceNamed hB hW.2.2.2.2.2.1 a3 f5 f7 (by rw [a4]; omega) (by rw [a4]; omega) (fun r nn hnn hr hnm _ => ⟨fun hne => ?_, fun e41 => bad 41 (by decide) (.inr ⟨hnh, nn, hnn, .inl ⟨rfl, by rw [eat1, eln1]; rw [a5, e41] at hnm; exact hnm⟩⟩)⟩) l2⟩
    rw [a5] at hnm
    have h3 : 0 ≤ r.toInt ∧ r.toInt < wic W := by
      rcases hr with e | e
      · exact absurd (z_eq.mpr e) hne
      · exact e
    obtain ⟨i, fi⟩ : ∃ i : Nat, r.toInt = i := ⟨r.toInt.toNat, by omega⟩
    have ci : r.toNatClampNeg = i := by rw [z_cl, fi]; omega
    obtain ⟨q1, q2⟩ := l4 i (by omega)
    have hmi := q2.1.2.2.2.2
    rw [ci]
    refine ⟨ad 18, hB.r (14, 0, 18) (by decide), hB.k 18 (by omega), by rw [z_in, l1]; omega, wia W i, q1, q2.1.1, wim W i, q2.1.2.2.2.1, hm.1.krow (by omega), md_at (c := 7) hm.1 (i := k) (j := 5) (by omega) rfl hx2 rfl (by omega) c5 (fun r15 e15 _ => ⟨_, a2, md_at (c := 7) hm.1 (i := k) (j := 6) (by omega) rfl hx2 rfl (by omega) c5 (fun r18 e18 _ => ⟨hmi.1.k, ?_⟩)⟩)⟩
    obtain ⟨at2, f15⟩ : ∃ a : Nat, r15.toInt = a := ⟨r15.toInt.toNat, by omega⟩
    obtain ⟨ln2, f18⟩ : ∃ a : Nat, r18.toInt = a := ⟨r18.toInt.toNat, by omega⟩
    have eat2 : (dvs d 1 (7 * k + 5)).toInt.toNat = at2 := by omega
    have eln2 : (dvs d 1 (7 * k + 6)).toInt.toNat = ln2 := by omega
    refine mo_exportNamed hmi a3 f15 f18 (by rw [a4]; omega) (by rw [a4]; omega) (fun r21 hr21 _ => ⟨fun hne2 => ?_, fun e42 => bad 42 (by decide) (.inr ⟨hnh, nn, hnn, .inr ⟨r, i, fi, by omega, by rw [eat1, eln1]; exact hnm, .inl ⟨rfl, by rw [eat2, eln2]; rw [a5, e42] at hr21; exact hr21⟩⟩⟩)⟩)
    rw [a5] at hr21
    have h21 : 0 ≤ r21.toInt ∧ r21.toInt < (dn (wd W i) 6 / 5 : Nat) := by
      rcases hr21.rg with e | e
      · exact absurd (z_eq.mpr e) hne2
      · exact e
    obtain ⟨ex, fex⟩ : ∃ a : Nat, r21.toInt = a := ⟨r21.toInt.toNat, by omega⟩
    obtain ⟨x1, κ2, num, y1, y2, y3, y4, y5, y6, y7, y8⟩ := hmi.exp (e := ex) (by omega)
    refine ⟨_, hmi.1.row (k := 6) (by omega), hmi.1.krow (by omega), md_at (c := 5) hmi.1 (i := ex) (j := 1) (by omega) rfl fex rfl (by omega) x1 (fun r26 e26 _ => md_at (c := 7) hm.1 (i := k) (j := 1) (by omega) rfl hx2 rfl (by omega) c5 (fun r28 e28 _ => ⟨fun e9 => ⟨ad 18, hB.r (14, 0, 18) (by decide), hB.k 18 (by omega), by rw [z_in, l1]; omega, wia W i, q1, _, hmi.1.row (k := 6) (by omega), hmi.1.krow (by omega), md_at (c := 5) hmi.1 (i := ex) (j := 2) (by omega) rfl fex rfl (by omega) x1 (fun r37 e37 _ => ?_)⟩, fun e43 => bad 43 (by decide) (.inr ⟨hnh, nn, hnn, .inr ⟨r, i, fi, by omega, by rw [eat1, eln1]; exact hnm, .inr ⟨r21, ex, fex, by omega, by rw [eat2, eln2]; exact hr21, .inl ⟨rfl, .inl (fun h9 => e43 (z_eq.mpr (by omega)))⟩⟩⟩⟩)⟩))⟩
    have f26 : r26.toInt = κ2 := by omega
    have f28 : r28.toInt = κ := by omega
    have f37 : r37.toInt = num := by omega
    rw [z_eq, f26, f28] at e9
    have eκ : κ2 = κ := by omega
    subst eκ
    have ek2 : (dvs d 1 (7 * k + 1)).toInt.toNat = κ2 := by omega
    have en2 : (dvs (wd W i) 6 (5 * ex + 2)).toInt.toNat = num := by omega
    refine wI_takeOver (κ := κ2) hB hW hm hS hx2 hk c2 (by omega) f37 ⟨y5, y8⟩ hg (fun h' own' ad' r39 bc' bs' t1 t2 t3 t4 _ => ⟨fun e => hQ h' own' ad' 43 bc' bs' t1 t2 (.inl ⟨by decide, ?_⟩) t4, fun e => hQ h' own' ad' 0 bc' bs' t1 t2 (.inr ⟨rfl, ?_⟩) t4⟩)
    · rcases t3 with ⟨-, t3⟩ | ⟨t3, -⟩
      · exact .inr ⟨hnh, nn, hnn, .inr ⟨r, i, fi, by omega, by rw [eat1, eln1]; exact hnm, .inr ⟨r21, ex, fex, by omega, by rw [eat2, eln2]; exact hr21, .inl ⟨rfl, .inr (by rw [ek2, en2]; exact t3)⟩⟩⟩⟩
      · rw [e] at t3
        exact absurd t3 (by decide)
    · rcases t3 with ⟨t3, -⟩ | ⟨-, t3, v, t5, t6, t7⟩
      · exact absurd t3 e
      · refine ⟨t3, v, .inr ⟨hnh, nn, hnn, .inr ⟨r, i, fi, by omega, by rw [eat1, eln1]; exact hnm, .inr ⟨r21, ex, fex, by omega, by rw [eat2, eln2]; exact hr21, .inr ⟨rfl, by omega, by rw [ek2, en2]; exact t5⟩⟩⟩⟩, by rw [ek2]; exact t6, t7⟩
  refine ⟨fun e => L55 (fun h9 => e (z_eq.mpr (by have := h9.1; simp only [Int32.reduceToInt]; omega))), fun e => ⟨_, a2, ?_⟩⟩
  rw [z_eq, f7, show (4 : Int32).toInt = 4 from rfl] at e
  have hh : (∀ t, t < 4 → xb_i h (dcd d) (at1 + t) = xb_cHN.getD t 0) ↔ hstN d k := by
    unfold hstN
    rw [eat1, a5]
    exact ⟨fun h9 => ⟨by omega, h9⟩, fun h9 => h9.2⟩
  refine y_sameBytesS a3 f5 (by rw [f7]; omega) (by rw [a4]; omega) (by rw [a4]; omega) (fun r12 hr12 _ => ⟨fun er => L55 (fun h9 => ?_), fun er => ⟨k14, wI_lookUpAtHost hB hW hm hS hx2 hk hg (fun h' own' ad' r bc' bs' t1 t2 t3 t4 _ => hQ h' own' ad' r bc' bs' t1 t2 ?_ t4)⟩⟩)
  · rcases hr12 with ⟨-, h8⟩ | ⟨h8, -⟩
    · exact h8 (hh.mpr h9)
    · rw [er] at h8
      exact absurd h8 (by decide)
  · have h9 : hstN d k := by
      rcases hr12 with ⟨h8, -⟩ | ⟨-, h8⟩
      · exact absurd h8 er
      · exact hh.mp h8
    rcases t3 with ⟨t3, t5⟩ | ⟨t3, t5, v, t6, t7⟩
    · exact .inl ⟨t3, .inl ⟨h9, t5⟩⟩
    · exact .inr ⟨t3, t5, v, .inl ⟨h9, t6⟩, t7⟩
end W6
