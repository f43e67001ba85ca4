-- equality: instantiate, the reference as a whole
/-- imports up to k were given something -/
def iI (A : Nat → Nat) (h : xb_H) (F : Nat → Nat → Int32) (v : Nat → Int32) (DM : Nat → zM) (D : zM) (k : Nat) (w : Nat → Int32) : Prop := ∀ j, j < k → 0 ≤ (w j).toInt ∧ foR A h F DM v D j (w j)
/-- how the call ends -/
def iX (own : Nat → Nat) (mm : Nat) (h : xb_H) (F : Nat → Nat → Int32) (DM : Nat → zM) (len rc rs K : Nat) (own2 A2 : Nat → Nat) (h2 : xb_H) (F2 : Nat → Nat → Int32) (u : Nat → Int32) (rl2 bc2 bs2 : Nat) : Prop :=
  zT own own2 h F h2 F2 ∧ rA own2 mm A2 h2 F2 u DM len rl2 K ∧ rG len rl2 rc rs K bc2 bs2 ∧ xb_l h2 mm 85 = xb_l h mm 85 ∧ u 0 = 0
/-- an instance in the making: its rows -/
def iNw (A : Nat → Nat) (h : xb_H) (F : Nat → Nat → Int32) (v : Nat → Int32) (DM : Nat → zM) (m : Nat) (r4 y4 r7 y7 : Int64) (A2 : Nat → Nat) (h2 : xb_H) (F2 : Nat → Nat → Int32) : Prop :=
  ((F2 (A2 31) (vN v 30)).toInt = m ∧ (F2 (A2 32) (vN v 30)).toInt = vN v 34 ∧ (F2 (A2 35) (vN v 30)).toInt = vN v 43 ∧ (F2 (A2 36) (vN v 30)).toInt = vN v 58 ∧ (F2 (A2 37) (vN v 30)).toInt = vN v 46 ∧ (F2 (A2 38) (vN v 30)).toInt = vN v 52) ∧
  (0 < qt (DM m) 4 → (F2 (A2 48) (vN v 46)).toInt = vN v 47 ∧ (F2 (A2 49) (vN v 46)).toInt = r4.toInt ∧ xb_l h2 (A2 50) (vN v 46) = y4) ∧ (0 < qt (DM m) 5 → (F2 (A2 54) (vN v 52)).toInt = r7.toInt ∧ xb_l h2 (A2 55) (vN v 52) = y7) ∧
  iI A h F v DM (DM m) (qt (DM m) 2) (fun j => F2 (A2 33) (vN v 34 + j))
section HQ0
variable {φ φ' φ2 : Nat → Nat → Int32} {ℓ ℓ' ℓ2 : Nat → Nat → Int64} {ν ν' ν2 : Nat → Int32}
theorem iRf.tr (h1 : iRf φ ℓ ν φ' ℓ' ν') (h2 : iRf φ' ℓ' ν' φ2 ℓ2 ν2) (hv : ∀ k, k ∈ [30, 34, 46, 52, 58] → vN ν' k = vN ν k) : iRf φ ℓ ν φ2 ℓ2 ν2 := by
  obtain ⟨a1, a2, a3, a4, a5, a6, a7, a8⟩ := h1
  obtain ⟨b1, b2, b3, b4, b5, b6, b7, b8⟩ := h2
  rw [hv 30 (by decide)] at b2
  rw [hv 34 (by decide)] at b3
  rw [hv 46 (by decide)] at b4
  rw [hv 52 (by decide)] at b5
  rw [hv 58 (by decide)] at b6
  refine ⟨fun k hk hn => (b1 k hk hn).trans (a1 k hk hn), fun k hk j hj => (b2 k hk j hj).trans (a2 k hk j hj), fun j hj => (b3 j hj).trans (a3 j hj), fun t ht => ?_, fun t ht => ?_, fun t ht => ?_, fun k hk => (b7 k hk).trans (a7 k hk), fun j hj => (b8 j hj).trans (a8 j hj)⟩
  · exact ⟨(b4 t ht).1.trans (a4 t ht).1, (b4 t ht).2.1.trans (a4 t ht).2.1, (b4 t ht).2.2.trans (a4 t ht).2.2⟩
  · exact ⟨(b5 t ht).1.trans (a5 t ht).1, (b5 t ht).2.trans (a5 t ht).2⟩
  · exact ⟨(b6 t ht).1.trans (a6 t ht).1, (b6 t ht).2.1.trans (a6 t ht).2.1, (b6 t ht).2.2.trans (a6 t ht).2.2⟩
end HQ0
section HQ
variable {own own' own2 : Nat → Nat} {mm m i k κ : Nat} {A A' A2 : Nat → Nat} {h h' h2 : xb_H} {F F' F2 : Nat → Nat → Int32} {v u : Nat → Int32} {DM : Nat → zM} {D : zM} {len rl K rc rs bc bs : Nat} {r : Int32} {Qr : Int32 → xb_H → Nat → Nat → Prop}
/-- what an import is given hangs on the rows below alone -/
theorem foR_gen (hA : rA own mm A h F v DM len rl K) (up : ∀ c, (∃ e ∈ aL, e.1 = c) → c ≠ 33 → F2 (A2 c) = F (A c)) (h33 : ∀ j, j < vN v 34 → F2 (A2 33) j = F (A 33) j) (l50 : xb_l h2 (A2 50) = xb_l h (A 50)) (l55 : xb_l h2 (A2 55) = xb_l h (A 55)) (e42 : vN u 42 = vN v 42) (hf : foR A2 h2 F2 DM u D k r) : foR A h F DM v D k r := by
  have mn : ∀ i κ k, i < vN v 30 → mnV A2 F2 DM i κ k = mnV A F DM i κ k := fun i κ k hi => by
    obtain ⟨m, ip, -, -, -, -, ⟨d1, d2, -⟩, ⟨-, d3, -⟩, -⟩ := hA.I.2.2.1 i hi
    have d1' : (F (A 31) i).toInt = m := d1
    have d2' : (F (A 32) i).toInt = ip := d2
    unfold mnV
    rw [up 31 (by decide) (by decide), up 32 (by decide) (by decide), up 35 (by decide) (by decide), up 36 (by decide) (by decide), up 37 (by decide) (by decide), up 38 (by decide) (by decide), d1', d2', Int.toNat_natCast, Int.toNat_natCast]
    by_cases h9 : k < iM (DM m) κ
    · rw [if_pos h9, if_pos h9, h33 _ (by have := (ikx_f (D := DM m) (κ := κ) (n := qt (DM m) 2) h9).1; omega)]
    · rw [if_neg h9, if_neg h9]
  obtain ⟨is, h1, h9⟩ := hf
  refine ⟨is, ?_, ?_⟩
  · obtain ⟨o1, o2, n1, n2, x, eo1, en1, hx, eo2, en2, hb⟩ := h1
    refine ⟨o1, o2, n1, n2, x, eo1, en1, hx, eo2, en2, ?_⟩
    unfold hsR inR inS at *
    rw [up 3 (by decide) (by decide), up 31 (by decide) (by decide), up 39 (by decide) (by decide), up 40 (by decide) (by decide), up 41 (by decide) (by decide), e42] at hb
    rcases hb with hb | ⟨b1, i, b2, b3⟩
    · exact .inl hb
    · refine .inr ⟨b1, i, b2, ?_⟩
      rcases b3 with b3 | ⟨iN, mo_, c1, c2, e, c3, c4⟩
      · exact .inl b3
      · refine .inr ⟨iN, mo_, c1, c2, e, c3, ?_⟩
        rcases c4 with c4 | ⟨ke, c4, c5⟩
        · exact .inl c4
        · refine .inr ⟨ke, c4, ?_⟩
          rcases c5 with c5 | ⟨c5, c6⟩
          · exact .inl c5
          · refine .inr ⟨c5, ?_⟩
            have hiN : iN < vN v 30 := by
              rcases b2 with ⟨b2, -⟩ | ⟨kk, b2, -, -, b4⟩
              · rw [b2] at c1
                have : (-1 : Int32).toInt = -1 := rfl
                omega
              · obtain ⟨nf, ns, no, -, -, k3, -, k5⟩ := hA.I.2.2.2.1.2.2.2.2.2.2 kk b2
                have k3' : (F (A 41) kk).toInt = no := k3
                rw [b4] at c1
                omega
            rw [mn _ _ _ hiN] at c6
            exact c6
  · have fs := fMo.st (φ := fun k => F (A k)) (φ' := fun k => F2 (A2 k)) (DM := DM) (up 31 (by decide) (by decide)) (up 44 (by decide) (by decide)) (up 45 (by decide) (by decide))
    have fi : ∀ g, fiS A2 h2 F2 DM D k g ↔ fiS A h F DM D k g := fun g => by
      unfold fiS
      rw [fs.2.2.1, fs.2.2.2, up 49 (by decide) (by decide), up 54 (by decide) (by decide), up 59 (by decide) (by decide), up 60 (by decide) (by decide), l50, l55]
    rcases h9 with h9 | ⟨g, g1, g2⟩
    · exact .inl h9
    · refine .inr ⟨g, g1, ?_⟩
      rw [fi] at g2
      exact g2
theorem vg.gv {v u : Nat → Int32} (hg : vg v u) {j : Nat} (hj : j ∉ [14, 15, 16, 17, 18]) : u j = v j := by
  have qn : ∀ k, k ∈ [14, 15, 16, 17, 18] → j ≠ k := fun k hk e => hj (e ▸ hk)
  exact hg j (qn 14 (by decide)) (qn 15 (by decide)) (qn 16 (by decide)) (qn 17 (by decide)) (qn 18 (by decide))
theorem gVL_v : ∀ j, j ∈ gVL → j ≠ 0 ∧ j ∉ [14, 15, 16, 17, 18] := by decide
theorem gAL_k : ∀ k, k ∈ gAL → ∃ e ∈ aL, e.1 = k := by decide
/-- refused or not, as a whole -/
theorem r_instX {x1 : Int32} (hA : rA own mm A h F v DM len rl (K + 1)) (hg : rG len rl rc rs (K + 1) bc bs)
    (hQ0 : ∀ y0 : Int32, (y0 = 1 ∧ byd (vN v 5) x1) ∨ (y0 = 2 ∧ v 62 ≠ 0 ∧ ∃ m : Nat, x1.toInt = m ∧ m < vN v 5) → rA own mm A h F (va_up v 0 y0) DM len rl K → Qr 0 (mH h F mm (va_up v 0 y0)) bc bs)
    (hQi : ∀ (m k : Nat) (w : Nat → Int32) (r : Int32) (own2 A2 : Nat → Nat) (h2 : xb_H) (F2 : Nat → Nat → Int32) (u : Nat → Int32) (rl2 bc2 bs2 : Nat), x1.toInt = m → m < vN v 5 → v 62 = 0 → k < qt (DM m) 2 → iI A h F v DM (DM m) k w → r.toInt < 0 → foR A h F DM v (DM m) k r → F2 (A2 89) 0 = -r → (F2 (A2 89) 1).toInt = k → iRf (fun k => F (A k)) (fun k => xb_l h (A k)) v (fun k => F2 (A2 k)) (fun k => xb_l h2 (A2 k)) u → iX own mm h F DM len rc rs K own2 A2 h2 F2 u rl2 bc2 bs2 → Qr (-1) (mH h2 F2 mm u) bc2 bs2)
    (hQr : ∀ (m : Nat) (w : Nat → Int32) (r4 y4 r7 y7 : Int64) (own2 A2 : Nat → Nat) (h2 : xb_H) (F2 : Nat → Nat → Int32) (u : Nat → Int32) (rl2 bc2 bs2 : Nat), x1.toInt = m → m < vN v 5 → v 62 = 0 → iI A h F v DM (DM m) (qt (DM m) 2) w → olV (DM m) 4 r4 y4 → olV (DM m) 5 r7 y7 → nRm v (DM m) r4 r7 → F2 (A2 89) 0 = 44 → F2 (A2 89) 1 = 0 → iRf (fun k => F (A k)) (fun k => xb_l h (A k)) v (fun k => F2 (A2 k)) (fun k => xb_l h2 (A2 k)) u → iX own mm h F DM len rc rs K own2 A2 h2 F2 u rl2 bc2 bs2 → Qr (-1) (mH h2 F2 mm u) bc2 bs2)
    (hQf : ∀ (m k : Nat) (c : Int32) (r4 y4 r7 y7 : Int64) (own2 A2 : Nat → Nat) (h3 h2 : xb_H) (G F2 : Nat → Nat → Int32) (u3 u : Nat → Int32) (rl2 bc2 bs2 : Nat), x1.toInt = m → m < vN v 5 → v 62 = 0 → olV (DM m) 4 r4 y4 → olV (DM m) 5 r7 y7 → ¬ nRm v (DM m) r4 r7 → iNw A h F v DM m r4 y4 r7 y7 A2 h3 G → iRf (fun k => F (A k)) (fun k => xb_l h (A k)) v (fun k => G (A2 k)) (fun k => xb_l h3 (A2 k)) u3 → rfW A2 h3 G DM (DM m) (vN v 30) (vN v 34) c k → F2 (A2 89) 0 = c → (F2 (A2 89) 1).toInt = k → iRf (fun k => F (A k)) (fun k => xb_l h (A k)) v (fun k => F2 (A2 k)) (fun k => xb_l h2 (A2 k)) u → iX own mm h F DM len rc rs K own2 A2 h2 F2 u rl2 bc2 bs2 → Qr (-1) (mH h2 F2 mm u) bc2 bs2)
    (hQs : ∀ (m : Nat) (r : Int32) (r4 y4 r7 y7 : Int64) (own2 A2 : Nat → Nat) (h3 h2 : xb_H) (G F2 : Nat → Nat → Int32) (u3 u : Nat → Int32) (rl2 bc2 bs2 : Nat), x1.toInt = m → m < vN v 5 → v 62 = 0 → r.toInt = vN v 30 → olV (DM m) 4 r4 y4 → olV (DM m) 5 r7 y7 → ¬ nRm v (DM m) r4 r7 → iNw A h F v DM m r4 y4 r7 y7 A2 h3 G → iRf (fun k => F (A k)) (fun k => xb_l h (A k)) v (fun k => G (A2 k)) (fun k => xb_l h3 (A2 k)) u3 → (∀ j, j ≠ 0 → j ∉ [14, 15, 16, 17, 18] → u3 j = v j) → mB own2 mm A2 h2 → mdX A2 h3 G u3 DM m h2 F2 u → iX own mm h F DM len rc rs K own2 A2 h2 F2 u rl2 bc2 bs2 → Qr r (mH h2 F2 mm u) bc2 bs2) : w_M_instantiate mm x1 (mH h F mm v) bc bs Qr := by
  refine r_instantiateE hA hg hQ0 (fun m r6 own' A' h' F' rl' bc' bs' m1 m2 h62 e6 b2 z' rv A1 g1 l34 => ?_)
  obtain ⟨rv1, rv2, rv3⟩ := rv
  have hB := A1.B
  obtain ⟨v1, hv1⟩ : ∃ v1, v1 = va_up v 0 0 := ⟨_, rfl⟩
  rw [← hv1] at A1 l34 rv2 ⊢
  have v1e : ∀ j, j ≠ 0 → v1 j = v j := fun j hj => by rw [hv1, xh_up, if_neg hj]
  have v1n : ∀ j, j ≠ 0 → vN v1 j = vN v j := fun j hj => by unfold vN; rw [v1e j hj]
  have v10 : v1 0 = 0 := by rw [hv1, xh_up, if_pos rfl]
  have e34 := v1n 34 (by decide)
  -- the rows after more room was made
  have R1 : iRf (fun k => F (A k)) (fun k => xb_l h (A k)) v (fun k => F' (A' k)) (fun k => xb_l h' (A' k)) v1 := by
    refine ⟨fun k hk hn => (rv1 k (gAL_k k hk) (fun e => hn (by rw [e]; decide))).2.1, fun k hk j _ => ?_, fun j hj => rv2 j (by rw [e34]; exact hj), fun t _ => ⟨?_, ?_, ?_⟩, fun t _ => ⟨?_, ?_⟩, fun t _ => ⟨?_, ?_, ?_⟩, fun k hk => ?_, fun j hj => v1e j (gVL_v j hj).1⟩
    · exact congrFun (rv1 k ((by decide : ∀ k, k ∈ [31, 32, 35, 36, 37, 38] → ∃ e ∈ aL, e.1 = k) k hk) ((by decide : ∀ k, k ∈ [31, 32, 35, 36, 37, 38] → k ≠ 33) k hk)).2.1 j
    · exact congrFun (rv1 48 (by decide) (by decide)).2.1 t
    · exact congrFun (rv1 49 (by decide) (by decide)).2.1 t
    · exact congrFun (rv1 50 (by decide) (by decide)).2.2 t
    · exact congrFun (rv1 54 (by decide) (by decide)).2.1 t
    · exact congrFun (rv1 55 (by decide) (by decide)).2.2 t
    · exact congrFun (rv1 59 (by decide) (by decide)).2.1 t
    · exact congrFun (rv1 60 (by decide) (by decide)).2.1 t
    · exact congrFun (rv1 61 (by decide) (by decide)).2.2 t
    · exact (rv1 k ((by decide : ∀ k, k ∈ [65, 67, 74, 87] → ∃ e ∈ aL, e.1 = k) k hk) ((by decide : ∀ k, k ∈ [65, 67, 74, 87] → k ≠ 33) k hk)).2.2
  have cn1 : ∀ k, k ∈ [30, 34, 46, 52, 58] → vN v1 k = vN v k := fun k hk => v1n k ((by decide : ∀ k, k ∈ [30, 34, 46, 52, 58] → k ≠ 0) k hk)
  have cng : ∀ u, vg v1 u → ∀ k, k ∈ [5, 30, 34, 42, 43, 46, 47, 52, 53, 58] → vN u k = vN v k := fun u hu k hk => by
    unfold vN
    rw [hu.gv ((by decide : ∀ k, k ∈ [5, 30, 34, 42, 43, 46, 47, 52, 53, 58] → k ∉ [14, 15, 16, 17, 18]) k hk), v1e k ((by decide : ∀ k, k ∈ [5, 30, 34, 42, 43, 46, 47, 52, 53, 58] → k ≠ 0) k hk)]
  have cng5 : ∀ u, vg v1 u → ∀ k, k ∈ [30, 34, 46, 52, 58] → vN u k = vN v k := fun u hu k hk => cng u hu k ((by decide : ∀ k, k ∈ [30, 34, 46, 52, 58] → k ∈ [5, 30, 34, 42, 43, 46, 47, 52, 53, 58]) k hk)
  -- rows of imports
  have ne : ∀ {j k : Nat}, (∃ e ∈ aL, e.1 = j) → (∃ e ∈ aL, e.1 = k) → k ≠ j → ∀ (G : Nat → Nat → Int32) (w : Nat → Int32), va_up G (A' j) w (A' k) = G (A' k) := fun hj hk hn G w => by rw [xh_up, if_neg (hB.ne hk hj hn)]
  have at_ : ∀ {j : Nat} (G : Nat → Nat → Int32) (w : Nat → Int32), va_up G (A' j) w (A' j) = w := fun G w => by rw [xh_up, if_pos rfl]
  have R2 : ∀ (w u : Nat → Int32) (hh : xb_H), (∀ j, j < vN v1 34 → w j = F' (A' 33) j) → lq mm h' hh → vg v1 u → iRf (fun k => F' (A' k)) (fun k => xb_l h' (A' k)) v1 (fun k => va_up F' (A' 33) w (A' k)) (fun k => xb_l hh (A' k)) u := fun w u hh hw hq hu => by
    have hl : ∀ k, (∃ e ∈ aL, e.1 = k) → xb_l hh (A' k) = xb_l h' (A' k) := fun k hk => hq.2.2.2.1 _ (hB.nm hk)
    have hf : ∀ k, (∃ e ∈ aL, e.1 = k) → k ≠ 33 → va_up F' (A' 33) w (A' k) = F' (A' k) := fun k hk hn => ne (by decide) hk hn _ _
    refine ⟨fun k hk hn => hf k (gAL_k k hk) (fun e => hn (by rw [e]; decide)), fun k hk j _ => ?_, fun j hj => ?_, fun t _ => ⟨?_, ?_, ?_⟩, fun t _ => ⟨?_, ?_⟩, fun t _ => ⟨?_, ?_, ?_⟩, fun k hk => ?_, fun j hj => hu.gv (gVL_v j hj).2⟩
    · exact congrFun (hf k ((by decide : ∀ k, k ∈ [31, 32, 35, 36, 37, 38] → ∃ e ∈ aL, e.1 = k) k hk) ((by decide : ∀ k, k ∈ [31, 32, 35, 36, 37, 38] → k ≠ 33) k hk)) j
    · show va_up F' (A' 33) w (A' 33) j = F' (A' 33) j
      rw [at_]
      exact hw j hj
    · exact congrFun (hf 48 (by decide) (by decide)) t
    · exact congrFun (hf 49 (by decide) (by decide)) t
    · exact congrFun (hl 50 (by decide)) t
    · exact congrFun (hf 54 (by decide) (by decide)) t
    · exact congrFun (hl 55 (by decide)) t
    · exact congrFun (hf 59 (by decide) (by decide)) t
    · exact congrFun (hf 60 (by decide) (by decide)) t
    · exact congrFun (hl 61 (by decide)) t
    · exact hl k ((by decide : ∀ k, k ∈ [65, 67, 74, 87] → ∃ e ∈ aL, e.1 = k) k hk)
  -- the fault's row is not looked at
  have R89 : ∀ (G : Nat → Nat → Int32) (X : Nat → Int32) (hh : xb_H) (u : Nat → Int32), iRf (fun k => G (A' k)) (fun k => xb_l hh (A' k)) u (fun k => va_up G (A' 89) X (A' k)) (fun k => xb_l hh (A' k)) u := fun G X hh u => by
    have hf : ∀ k, (∃ e ∈ aL, e.1 = k) → k ≠ 89 → va_up G (A' 89) X (A' k) = G (A' k) := fun k hk hn => ne (by decide) hk hn _ _
    refine ⟨fun k hk hn => hf k (gAL_k k hk) (fun e => hn (by rw [e]; decide)), fun k hk j _ => ?_, fun j _ => ?_, fun t _ => ⟨?_, ?_, rfl⟩, fun t _ => ⟨?_, rfl⟩, fun t _ => ⟨?_, ?_, rfl⟩, fun k hk => rfl, fun j hj => rfl⟩
    · exact congrFun (hf k ((by decide : ∀ k, k ∈ [31, 32, 35, 36, 37, 38] → ∃ e ∈ aL, e.1 = k) k hk) ((by decide : ∀ k, k ∈ [31, 32, 35, 36, 37, 38] → k ≠ 89) k hk)) j
    · exact congrFun (hf 33 (by decide) (by decide)) j
    · exact congrFun (hf 48 (by decide) (by decide)) t
    · exact congrFun (hf 49 (by decide) (by decide)) t
    · exact congrFun (hf 54 (by decide) (by decide)) t
    · exact congrFun (hf 59 (by decide) (by decide)) t
    · exact congrFun (hf 60 (by decide) (by decide)) t
  have R12 : ∀ (w u : Nat → Int32) (hh : xb_H), (∀ j, j < vN v1 34 → w j = F' (A' 33) j) → lq mm h' hh → vg v1 u → iRf (fun k => F (A k)) (fun k => xb_l h (A k)) v (fun k => va_up F' (A' 33) w (A' k)) (fun k => xb_l hh (A' k)) u := fun w u hh hw hq hu => R1.tr (R2 w u hh hw hq hu) cn1
  have cnv : ∀ k r, foS A' h' F' DM v1 (DM m) mm k r → foR A h F DM v (DM m) k r := fun k r hf => by
    obtain ⟨w, hj, u, hw, hq, hv, hf⟩ := hf
    refine foR_gen hA (fun c hc hn => ?_) (fun j hj => ?_) ?_ ?_ (cng u hv 42 (by decide)) hf
    · rw [ne (by decide) hc hn]
      exact (rv1 c hc hn).2.1
    · rw [at_, hw j (by rw [e34]; exact hj)]
      exact rv2 j (by rw [e34]; exact hj)
    · rw [hq.2.2.2.1 _ (hB.nm (by decide))]
      exact (rv1 50 (by decide) (by decide)).2.2
    · rw [hq.2.2.2.1 _ (hB.nm (by decide))]
      exact (rv1 55 (by decide) (by decide)).2.2
  have m85 : ∀ hh, lq mm h' hh → xb_l hh mm 85 = xb_l h mm 85 := fun hh hq => by rw [hq.2.2.2.2 85 (by decide), rv3]
  have u0 : ∀ u, vg v1 u → u 0 = 0 := fun u hu => by rw [hu.gv (by decide)]; exact v10
  refine m_inst51E A1 (by rw [v1e 62 (by decide)]; exact h62) m1 (by rw [v1n 5 (by decide)]; exact m2) e6 l34 b2 (fun w v' hh r kx k lqh hw vgv z17 hkx hk hj hr hfk f0x rAx => ?_) (fun w v' hh r4 y4 r7 y7 lqh hw vgv z17 hj o4 o7 hnr f0x rAx => ?_) (fun w v' hh r4 y4 r7 y7 lqh hw vgv z17 hj o4 o7 hnr f0x rAx rOKx => ?_)
  · refine hQi m k (fun j => w (vN v1 34 + j)) r own' A' hh _ v' rl' bc' bs' m1 m2 h62 hk (fun j hj9 => ⟨(hj j hj9).1, cnv _ _ (hj j hj9).2⟩) hr (cnv _ _ hfk) ?_ ?_ ((R12 w v' hh hw lqh vgv).tr (R89 _ _ hh v') (cng5 v' vgv)) ⟨z'.tr f0x.z, rAx, g1, m85 hh lqh, u0 v' vgv⟩
    · rw [at_, xh_up, if_neg (by decide), xh_up, if_pos rfl]
    · rw [at_, xh_up, if_pos rfl]
      exact hkx
  · refine hQr m (fun j => w (vN v1 34 + j)) r4 y4 r7 y7 own' A' hh _ v' rl' bc' bs' m1 m2 h62 (fun j hj9 => ⟨(hj j hj9).1, cnv _ _ (hj j hj9).2⟩) o4 o7 ?_ ?_ ?_ ((R12 w v' hh hw lqh vgv).tr (R89 _ _ hh v') (cng5 v' vgv)) ⟨z'.tr f0x.z, rAx, g1, m85 hh lqh, u0 v' vgv⟩
    · unfold nRm at *
      rw [v1n 30 (by decide), v1n 43 (by decide), v1n 58 (by decide), v1n 47 (by decide), v1n 53 (by decide)] at hnr
      exact hnr
    · rw [at_, xh_up, if_neg (by decide), xh_up, if_pos rfl]
    · rw [at_, xh_up, if_pos rfl]
  · have hnr' : ¬ nRm v (DM m) r4 r7 := fun h9 => hnr (by
      unfold nRm at *
      rw [v1n 30 (by decide), v1n 43 (by decide), v1n 58 (by decide), v1n 47 (by decide), v1n 53 (by decide)]
      exact h9)
    have b4 := o4.b
    have b7 := o7.b
    have hnn := hnr'
    unfold nRm at hnn
    have c := cng v' vgv
    refine m_inst202E rAx (by rw [vgv.gv (by decide), v1e 62 (by decide)]; exact h62) m1 (by rw [c 5 (by decide)]; exact m2) (by rw [c 30 (by decide)]; omega) (by rw [c 43 (by decide)]; omega) (by rw [c 58 (by decide)]; omega) (by rw [c 34 (by decide), ← e34]; exact l34) b2 b4.1 (by rw [c 47 (by decide)]; omega) b7.1 (by rw [c 53 (by decide)]; omega) rOKx (fun h3 G f03 pX rA3 nJ => ?_)
    have hB3 := rA3.B
    obtain ⟨p1, p2, p3, ⟨t1, t2⟩, ⟨q1, q2⟩, pl⟩ := pX
    have hne33 : va_up F' (A' 33) w (A' 33) = w := at_ _ _
    have R3 : iRf (fun k => va_up F' (A' 33) w (A' k)) (fun k => xb_l hh (A' k)) v' (fun k => G (A' k)) (fun k => xb_l h3 (A' k)) v' := by
      have hl : ∀ k, (∃ e ∈ aL, e.1 = k) → k ≠ 50 → k ≠ 55 → xb_l h3 (A' k) = xb_l hh (A' k) := fun k hk h5 h6 => pl _ (hB.ne hk (by decide) h5) (hB.ne hk (by decide) h6)
      refine ⟨fun k hk hn => p3 k (gAL_k k hk) (fun h9 => hn ((by decide : ∀ k, k ∈ [31, 32, 35, 36, 37, 38, 48, 49, 54] → k ∈ [31, 32, 33, 35, 36, 37, 38, 48, 49, 54, 59, 60, 89]) k h9)), fun k hk j hj => p2 k hk j (by omega), fun j _ => congrFun (p3 33 (by decide) (by decide)) j, fun t ht => ?_, fun t ht => ?_, fun t _ => ⟨congrFun (p3 59 (by decide) (by decide)) t, congrFun (p3 60 (by decide) (by decide)) t, congrFun (hl 61 (by decide) (by decide) (by decide)) t⟩, fun k hk => ?_, fun j hj => rfl⟩
      · exact t1 t (fun h9 => by omega)
      · exact q1 t (fun h9 => by omega)
      · have := (by decide : ∀ k, k ∈ [65, 67, 74, 87] → (∃ e ∈ aL, e.1 = k) ∧ k ≠ 50 ∧ k ≠ 55) k hk
        exact hl k this.1 this.2.1 this.2.2
    have R13 := (R12 w v' hh hw lqh vgv).tr R3 (cng5 v' vgv)
    have hnw : iNw A h F v DM m r4 y4 r7 y7 A' h3 G := by
      rw [c 30 (by decide), c 34 (by decide), c 43 (by decide), c 58 (by decide), c 46 (by decide), c 52 (by decide)] at p1
      rw [c 46 (by decide), c 47 (by decide)] at t2
      rw [c 52 (by decide)] at q2
      refine ⟨p1, t2, q2, fun j hj9 => ?_⟩
      show 0 ≤ (G (A' 33) (vN v 34 + j)).toInt ∧ foR A h F DM v (DM m) j (G (A' 33) (vN v 34 + j))
      rw [p3 33 (by decide) (by decide), hne33, ← e34]
      exact ⟨(hj j hj9).1, cnv _ _ (hj j hj9).2⟩
    have vve : ∀ j, j ≠ 0 → j ∉ [14, 15, 16, 17, 18] → v' j = v j := fun j h0 hn => by rw [vgv.gv hn, v1e j h0]
    have l85 : xb_l h3 mm 85 = xb_l h mm 85 := by rw [pl mm (fun e => hB.nm (by decide) e.symm) (fun e => hB.nm (by decide) e.symm)]; exact m85 hh lqh
    have zz3 : zT own own' h F h3 G := z'.tr (f0x.tr f03).z
    have ih : ∀ (h4 : xb_H) (w4 z4 : Nat → Int32), ivW A' h3 G v' (DM m) (vN v' 34) (qt (DM m) 6) h4 w4 z4 → xb_l h4 mm 85 = xb_l h mm 85 := fun h4 w4 z4 hi => by rw [hi.1 mm (fun e => hB.nm (by decide) e.symm)]; exact l85
    refine m_inst365E rA3 nJ (by rw [vgv.gv (by decide), v1e 62 (by decide)]; exact h62) m1 (rA3.n (k := 30) (b := 24) (by decide)).1 (fun h4 w4 z4 v4 cc kx k f04 hiv vg4 z17' hkx hrf rA4 => ?_) (fun h4 F5 v5 f05 hmd rA5 => ?_)
    · rw [c 30 (by decide), c 34 (by decide)] at hrf
      refine hQf m k cc r4 y4 r7 y7 own' A' h3 h4 G _ v' v4 rl' bc' bs' m1 m2 h62 o4 o7 hnr' hnw R13 hrf ?_ ?_ ?_ ⟨zz3.tr f04.z, rA4, g1, ih h4 w4 z4 hiv, u0 v4 (vgv.tr vg4)⟩
      · rw [at_, xh_up, if_neg (by decide), xh_up, if_pos rfl]
      · rw [at_, xh_up, if_pos rfl]
        exact hkx
      · refine R13.tr (φ' := fun k => G (A' k)) (ν' := v') (?_ : iRf _ _ _ _ _ _) (cng5 v' vgv)
        have hl : ∀ k, (∃ e ∈ aL, e.1 = k) → k ≠ 61 → xb_l h4 (A' k) = xb_l h3 (A' k) := fun k hk h5 => hiv.1 _ (hB.ne hk (by decide) h5)
        have hf : ∀ k, (∃ e ∈ aL, e.1 = k) → k ≠ 59 → k ≠ 60 → k ≠ 89 → va_up (va_up (va_up G (A' 59) w4) (A' 60) z4) (A' 89) (va_up (va_up (G (A' 89)) 0 cc) 1 kx) (A' k) = G (A' k) := fun k hk h5 h6 h8 => by rw [ne (by decide) hk h8, ne (by decide) hk h6, ne (by decide) hk h5]
        refine ⟨fun k hk hn => ?_, fun k hk j hj => ?_, fun j _ => congrFun (hf 33 (by decide) (by decide) (by decide) (by decide)) j, fun t ht => ⟨?_, ?_, ?_⟩, fun t ht => ⟨?_, ?_⟩, fun t ht => ⟨?_, ?_, ?_⟩, fun k hk => ?_, fun j hj => vg4.gv (gVL_v j hj).2⟩
        · exact hf k (gAL_k k hk) (fun e => hn (by rw [e]; decide)) (fun e => hn (by rw [e]; decide)) (fun e => hn (by rw [e]; decide))
        · have := (by decide : ∀ k, k ∈ [31, 32, 35, 36, 37, 38] → (∃ e ∈ aL, e.1 = k) ∧ k ≠ 59 ∧ k ≠ 60 ∧ k ≠ 89) k hk
          exact congrFun (hf k this.1 this.2.1 this.2.2.1 this.2.2.2) j
        · exact congrFun (hf 48 (by decide) (by decide) (by decide) (by decide)) t
        · exact congrFun (hf 49 (by decide) (by decide) (by decide) (by decide)) t
        · exact congrFun (hl 50 (by decide) (by decide)) t
        · exact congrFun (hf 54 (by decide) (by decide) (by decide) (by decide)) t
        · exact congrFun (hl 55 (by decide) (by decide)) t
        · show va_up (va_up (va_up G (A' 59) w4) (A' 60) z4) (A' 89) _ (A' 59) t = _
          rw [ne (by decide) (by decide) (by decide), ne (by decide) (by decide) (by decide), at_]
          exact (hiv.2.1 t ht).1
        · show va_up (va_up (va_up G (A' 59) w4) (A' 60) z4) (A' 89) _ (A' 60) t = _
          rw [ne (by decide) (by decide) (by decide), at_]
          exact (hiv.2.1 t ht).2.1
        · exact (hiv.2.1 t ht).2.2
        · have := (by decide : ∀ k, k ∈ [65, 67, 74, 87] → (∃ e ∈ aL, e.1 = k) ∧ k ≠ 61) k hk
          exact hl k this.1 this.2
    · have hu0 : v5 0 = 0 := by
        obtain ⟨w4, z4, v2, v3, v4, F3, F4, -, g2, -, -, g3, -, -, -, -, -, g4, -, g5⟩ := id hmd
        have e4 : v4 0 = 0 := by rw [g4.gv (by decide), g3 0 (by decide), g2.gv (by decide)]; exact u0 v' vgv
        rcases g5 with ⟨-, g5⟩ | ⟨-, u9, g5, -, -, -, -, g6⟩
        · rw [g5]
          exact e4
        · rw [g6 0 (by decide), g5.gv (by decide)]
          exact e4
      have h85 : xb_l h4 mm 85 = xb_l h mm 85 := by
        obtain ⟨w4, z4, v2, v3, v4, F3, F4, hi, -⟩ := id hmd
        exact ih h4 w4 z4 hi
      exact hQs m (v' 30) r4 y4 r7 y7 own' A' h3 h4 G F5 v' v5 rl' bc' bs' m1 m2 h62 (by rw [(rA3.n (k := 30) (b := 24) (by decide)).1, c 30 (by decide)]) o4 o7 hnr' hnw R13 vve rA5.B hmd ⟨zz3.tr f05.z, rA5, g1, h85, hu0⟩
end HQ
