-- the reference: instantiate, as a whole
section MN9
variable {own own' : Nat → Nat} {mm m i ip k f t n : Nat} {A A' : Nat → Nat} {h h' h2 : xb_H} {F F' F2 : Nat → Nat → Int32} {v v' v2 v0 cb : Nat → Int32} {D : zM} {DM : Nat → zM} {len rl K rc rs bc bs E : Nat} {Qr : Int32 → xb_H → Nat → Nat → Prop}
theorem olV.b {D : zM} {s : Nat} {r y : Int64} (h : olV D s r y) : 0 ≤ r.toInt ∧ r.toInt < 4294967296 := by
  rcases h with ⟨-, e, -⟩ | ⟨-, e, -⟩
  · rw [e]
    decide
  · rw [e]
    have := @cV_32 (qc D) (qp D s 0 + (if s = 4 then 1 else 0) + 1)
    omega
/-- what an import was given, whatever was written above -/
def foS (A : Nat → Nat) (h : xb_H) (F : Nat → Nat → Int32) (DM : Nat → zM) (v : Nat → Int32) (D : zM) (mm j : Nat) (r : Int32) : Prop :=
  ∃ (w : Nat → Int32) (hj : xb_H) (u : Nat → Int32), (∀ i, i < vN v 34 → w i = F (A 33) i) ∧ lq mm h hj ∧ vg v u ∧ foR A hj (va_up F (A 33) w) DM u D j r
/-- no room -/
def nRm (v : Nat → Int32) (D : zM) (r4 r7 : Int64) : Prop :=
  24 ≤ vN v 30 ∨ 8192 < vN v 43 + qt D 3 ∨ 4096 < vN v 58 + qt D 6 ∨ (16384 : Int) < vN v 47 + r4.toInt ∨ (16 : Int) < vN v 53 + r7.toInt
theorem m_inst51E {x1 x2 : Int32} (hA : rA own mm A h F v DM len rl K) (h62 : v 62 = 0) (h1 : x1.toInt = m) (hm : m < vN v 5) (h2 : x2.toInt = qt (DM m) 2) (b34 : vN v 34 + qt (DM m) 2 ≤ rl) (b2 : qt (DM m) 2 ≤ 10240) 
    (hQi : ∀ (w v' : Nat → Int32) (hh : xb_H) (r kx : Int32) (k : Nat), lq mm h hh → (∀ j, j < vN v 34 → w j = F (A 33) j) → vg v v' → v' 17 = 0 → kx.toInt = k → k < qt (DM m) 2 → (∀ j, j < k → 0 ≤ (w (vN v 34 + j)).toInt ∧ foS A h F DM v (DM m) mm j (w (vN v 34 + j))) → r.toInt < 0 → foS A h F DM v (DM m) mm k r → f0 own h F hh (va_up (va_up F (A 33) w) (A 89) (va_up (va_up (va_up F (A 33) w (A 89)) 0 (-r)) 1 kx)) → rA own mm A hh (va_up (va_up F (A 33) w) (A 89) (va_up (va_up (va_up F (A 33) w (A 89)) 0 (-r)) 1 kx)) v' DM len rl K → Qr (-1) (mH hh (va_up (va_up F (A 33) w) (A 89) (va_up (va_up (va_up F (A 33) w (A 89)) 0 (-r)) 1 kx)) mm v') bc bs)
    (hQr : ∀ (w v' : Nat → Int32) (hh : xb_H) (r4 y4 r7 y7 : Int64), lq mm h hh → (∀ j, j < vN v 34 → w j = F (A 33) j) → vg v v' → v' 17 = 0 → (∀ j, j < qt (DM m) 2 → 0 ≤ (w (vN v 34 + j)).toInt ∧ foS A h F DM v (DM m) mm j (w (vN v 34 + j))) → olV (DM m) 4 r4 y4 → olV (DM m) 5 r7 y7 → nRm v (DM m) r4 r7 → f0 own h F hh (va_up (va_up F (A 33) w) (A 89) (va_up (va_up (va_up F (A 33) w (A 89)) 0 44) 1 0)) → rA own mm A hh (va_up (va_up F (A 33) w) (A 89) (va_up (va_up (va_up F (A 33) w (A 89)) 0 44) 1 0)) v' DM len rl K → Qr (-1) (mH hh (va_up (va_up F (A 33) w) (A 89) (va_up (va_up (va_up F (A 33) w (A 89)) 0 44) 1 0)) mm v') bc bs)
    (hQn : ∀ (w v' : Nat → Int32) (hh : xb_H) (r4 y4 r7 y7 : Int64), lq mm h hh → (∀ j, j < vN v 34 → w j = F (A 33) j) → vg v v' → v' 17 = 0 → (∀ j, j < qt (DM m) 2 → 0 ≤ (w (vN v 34 + j)).toInt ∧ foS A h F DM v (DM m) mm j (w (vN v 34 + j))) → olV (DM m) 4 r4 y4 → olV (DM m) 5 r7 y7 → ¬ nRm v (DM m) r4 r7 → f0 own h F hh (va_up F (A 33) w) → rA own mm A hh (va_up F (A 33) w) v' DM len rl K → (∀ k, k < qt (DM m) 2 → rOK (fun k => va_up F (A 33) w (A k)) v' DM (DM m) k (va_up F (A 33) w (A 33) (vN v' 34 + k)).toInt) → w_M_instantiate_L202 Qr mm x1 r4 y4 r7 y7 1 (mH hh (va_up F (A 33) w) mm v') bc bs) : ∃ n8, w_M_instantiate_L51 Qr n8 mm x1 x2 0 (mH h F mm v) bc bs := by
  have hB := hA.B
  obtain ⟨d1, d2, -, -⟩ := hB.g (k := 33) (kd := 102) (n := 0) (by decide)
  obtain ⟨q1, q2, q3, q4, q5⟩ := hA.2.2.1
  obtain ⟨n34, n34'⟩ := hA.n (k := 34) (b := 245760) (by decide)
  obtain ⟨n30, n30'⟩ := hA.n (k := 30) (b := 24) (by decide)
  obtain ⟨n43, n43'⟩ := hA.n (k := 43) (b := 8192) (by decide)
  obtain ⟨n58, n58'⟩ := hA.n (k := 58) (b := 4096) (by decide)
  obtain ⟨n47, n47'⟩ := hA.n (k := 47) (b := 16384) (by decide)
  obtain ⟨n53, n53'⟩ := hA.n (k := 53) (b := 16) (by decide)
  have hX := hA.X hm
  have bq : ∀ s, s < 12 → qt (DM m) s ≤ 12000 := fun s hs => (hX.2.2.2.2.2.1 s hs).1
  have vgR : ∀ (u : Nat → Int32), vg v u → u 17 = 0 → ∀ k, k ∈ vRI → u k = v k := fun u gu zu k hk => by
    by_cases h9 : k = 17
    · rw [h9, zu, hA.z]
    · have : ∀ k, k ∈ vRI → k ≠ 17 → k ≠ 14 ∧ k ≠ 15 ∧ k ≠ 16 ∧ k ≠ 18 := by decide
      obtain ⟨b1, b2, b3, b4⟩ := this k hk h9
      exact gu k b1 b2 b3 h9 b4
  have ev : ∀ (u : Nat → Int32), vg v u → ∀ k, k ∉ [14, 15, 16, 17, 18] → vN u k = vN v k := fun u gu k hk => by
    have qn : ∀ j, j ∈ [14, 15, 16, 17, 18] → k ≠ j := fun j hj e => hk (e ▸ hj)
    unfold vN
    rw [gu k (qn 14 (by decide)) (qn 15 (by decide)) (qn 16 (by decide)) (qn 17 (by decide)) (qn 18 (by decide))]
  have ne33 : ∀ (w : Nat → Int32) k, (∃ e ∈ aL, e.1 = k) → k ≠ 33 → va_up F (A 33) w (A k) = F (A k) := fun w k hk h9 => by rw [xh_up, if_neg (hB.ne hk (by decide) h9)]
  have s33 : ∀ (w : Nat → Int32), va_up F (A 33) w (A 33) = w := fun w => by rw [xh_up, if_pos rfl]
  have f33 : ∀ (w : Nat → Int32), f0 own h F h (va_up F (A 33) w) := fun w => f0.aw (by rw [hB.o (by decide)]; omega)
  have GA : ∀ (w u : Nat → Int32) (hh : xb_H), lq mm h hh → (∀ j, j < vN v 34 → w j = F (A 33) j) → vg v u → u 17 = 0 → rA own mm A hh (va_up F (A 33) w) u DM len rl K := fun w u hh hl hw gu zu => by
    refine (hA.lq hl).ex (f0.aw (by rw [hB.o (by decide)]; omega)) (ne33 w 90 (by decide) (by decide)) (fun a ha => by rw [xh_up, if_neg (fun e => by rw [e, hB.o (by decide)] at ha; omega)]) (vgR u gu zu) (fun k hk h9 => ?_) (fun k hk j _ => ?_) (fun j hj => by rw [s33]; exact hw j hj) (fun f _ => by rw [ne33 w 44 (by decide) (by decide), ne33 w 45 (by decide) (by decide)]; exact ⟨rfl, rfl⟩) (fun t _ => by rw [ne33 w 48 (by decide) (by decide), ne33 w 49 (by decide) (by decide)]; exact ⟨rfl, rfl⟩) (fun m _ => by rw [ne33 w 54 (by decide) (by decide)]) (fun g _ => by rw [ne33 w 59 (by decide) (by decide)])
    · have q : ∀ k, k ∈ aRI → k ∉ nwA → (∃ e ∈ aL, e.1 = k) ∧ k ≠ 33 := by decide
      exact ne33 w k (q k hk h9).1 (q k hk h9).2
    · have q : ∀ k, k ∈ [31, 32, 35, 36, 37, 38] → (∃ e ∈ aL, e.1 = k) ∧ k ≠ 33 := by decide
      rw [ne33 w k (q k hk).1 (q k hk).2]
  have fG : ∀ (w : Nat → Int32) (hh : xb_H), lq mm h hh → f0 own h F hh (va_up F (A 33) w) := fun w hh hl => (hl.fr hB).tr (f0.aw (by rw [hB.o (by decide)]; omega))
  -- after the imports
  have rest : ∀ (w u : Nat → Int32) (hh : xb_H), lq mm h hh → (∀ j, j < vN v 34 → w j = F (A 33) j) → vg v u → u 17 = 0 → (∀ k, k < qt (DM m) 2 → rOK (fun k => F (A k)) v DM (DM m) k (w (vN v 34 + k)).toInt) → (∀ j, j < qt (DM m) 2 → 0 ≤ (w (vN v 34 + j)).toInt ∧ foS A h F DM v (DM m) mm j (w (vN v 34 + j))) → w_M_ownLeast mm x1 4 (mH hh (va_up F (A 33) w) mm u) (fun (r4 : Int64) (h3 : xb_H) => xb_ext (mH hh (va_up F (A 33) w) mm u) h3 → ∀ v5 : Int64, v5 = (xb_l h3 mm 91) → w_M_ownLeast mm x1 5 h3 (fun (r7 : Int64) (h6 : xb_H) => xb_ext h3 h6 → ∀ v8 : Int64, v8 = (xb_l h6 mm 91) → (((24 : Int32) ≤ (xb_i h6 mm 30) → w_M_instantiate_L201 Qr mm x1 r4 v5 r7 v8 h6 bc bs) ∧ (¬ (24 : Int32) ≤ (xb_i h6 mm 30) → w_M_manyOf mm x1 3 h6 (fun (r11 : Int32) (h10 : xb_H) => xb_ext h6 h10 → (((8192 : Int32) < ((xb_i h6 mm 43) + r11) → w_M_instantiate_L201 Qr mm x1 r4 v5 r7 v8 h10 bc bs) ∧ (¬ (8192 : Int32) < ((xb_i h6 mm 43) + r11) → w_M_manyOf mm x1 6 h10 (fun (r14 : Int32) (h13 : xb_H) => xb_ext h10 h13 → (((4096 : Int32) < ((xb_i h10 mm 58) + r14) → w_M_instantiate_L201 Qr mm x1 r4 v5 r7 v8 h13 bc bs) ∧ (¬ (4096 : Int32) < ((xb_i h10 mm 58) + r14) → (((16384 : Int64) < ((Int32.toInt64 (xb_i h13 mm 47)) + r4) → w_M_instantiate_L201 Qr mm x1 r4 v5 r7 v8 h13 bc bs) ∧ (¬ (16384 : Int64) < ((Int32.toInt64 (xb_i h13 mm 47)) + r4) → (((16 : Int64) < ((Int32.toInt64 (xb_i h13 mm 53)) + r7) → w_M_instantiate_L201 Qr mm x1 r4 v5 r7 v8 h13 bc bs) ∧ (¬ (16 : Int64) < ((Int32.toInt64 (xb_i h13 mm 53)) + r7) → w_M_instantiate_L202 Qr mm x1 r4 v5 r7 v8 1 h13 bc bs)))))))))))))) := by
    intro w u hh hl hw gu zu hI hF
    have Au := GA w u hh hl hw gu zu
    have Xu := Au.X (m := m) (by rw [ev u gu 5 (by decide)]; exact hm)
    refine m_ownLeastE Xu zu h1 (s := 4) rfl (.inl rfl) (fun v1 r4 y4 g1 z1 o4 _ v5 e5 => ?_)
    have e5' : v5 = y4 := by
      rw [e5]
      show xb_l (xb_L hh mm 91 y4) mm 91 = y4
      rw [xh_lL, if_pos rfl, xh_up, if_pos rfl]
    clear e5
    subst e5'
    obtain ⟨l4, l4'⟩ := o4.b
    have l1 : lq mm hh (xb_L hh mm 91 v5) := lq.L
    obtain ⟨h1', hh1⟩ : ∃ h1', h1' = xb_L hh mm 91 v5 := ⟨_, rfl⟩
    rw [← hh1] at l1
    rw [← hh1]
    have X1 := (GA w v1 h1' (hl.tr l1) hw (gu.tr g1) z1).X (m := m) (by rw [ev v1 (gu.tr g1) 5 (by decide)]; exact hm)
    refine m_ownLeastE X1 z1 h1 (s := 5) rfl (.inr rfl) (fun v2 r7 y7 g2 z2 o7 _ v8 e8 => ?_)
    have e8' : v8 = y7 := by
      rw [e8]
      show xb_l (xb_L h1' mm 91 y7) mm 91 = y7
      rw [xh_lL, if_pos rfl, xh_up, if_pos rfl]
    clear e8
    subst e8'
    obtain ⟨l7, l7'⟩ := o7.b
    have l2 : lq mm h1' (xb_L h1' mm 91 v8) := lq.L
    obtain ⟨h2', hh2⟩ : ∃ h2', h2' = xb_L h1' mm 91 v8 := ⟨_, rfl⟩
    rw [← hh2] at l2
    rw [← hh2]
    have G2 := (gu.tr g1).tr g2
    have hl2 := (hl.tr l1).tr l2
    have A2 := GA w v2 h2' hl2 hw G2 z2
    have X2 := A2.X (m := m) (by rw [ev v2 G2 5 (by decide)]; exact hm)
    have u2 : ∀ k, k ∉ [14, 15, 16, 17, 18] → v2 k = v k := fun k hk => by
      have qn : ∀ j, j ∈ [14, 15, 16, 17, 18] → k ≠ j := fun j hj e => hk (e ▸ hj)
      exact G2 k (qn 14 (by decide)) (qn 15 (by decide)) (qn 16 (by decide)) (qn 17 (by decide)) (qn 18 (by decide))
    have L201 : nRm v (DM m) r4 r7 → w_M_instantiate_L201 Qr mm x1 r4 v5 r7 v8 (mH h2' (va_up F (A 33) w) mm v2) bc bs := by
      intro hnr
      unfold w_M_instantiate_L201 w_M_instantiate_L202
      refine ⟨fun h9 => absurd rfl h9, fun _ => ⟨A2.B.2.1, m_refuseE A2.B (fun _ => ?_)⟩⟩
      exact hQr w v2 h2' r4 v5 r7 v8 hl2 hw G2 z2 hF o4 o7 hnr ((fG w h2' hl2).tr (f0.aw (by rw [hB.o (by decide)]; omega))) (A2.aw (by decide) (by decide) (by decide) (by decide))
    have s47 : (Int32.toInt64 (v 47) + r4).toInt = vN v 47 + r4.toInt := by
      rw [Z_add, Z_of32, n47]
      omega
    have s53 : (Int32.toInt64 (v 53) + r7).toInt = vN v 53 + r7.toInt := by
      rw [Z_add, Z_of32, n53]
      omega
    have q47 : (16384 : Int64).toInt = 16384 := rfl
    have q53 : (16 : Int64).toInt = 16 := rfl
    rw [mH_i, u2 30 (by decide), u2 43 (by decide)]
    refine ⟨fun hc => L201 (.inl ?_), fun c30 => m_manyOf X2 h1 (s := 3) rfl (by decide) (fun r11 e11 _ => ⟨fun hc => L201 (.inr (.inl ?_)), fun c43 => ?_⟩)⟩
    · rw [z_le, n30] at hc
      simp only [Int32.reduceToInt] at hc
      omega
    · rw [z_lt, z_ad2 n43 e11 (by omega) (by have := bq 3 (by decide); omega)] at hc
      simp only [Int32.reduceToInt] at hc
      omega
    rw [mH_i, u2 58 (by decide)]
    refine m_manyOf X2 h1 (s := 6) rfl (by decide) (fun r14 e14 _ => ⟨fun hc => L201 (.inr (.inr (.inl ?_))), fun c58 => ?_⟩)
    · rw [z_lt, z_ad2 n58 e14 (by omega) (by have := bq 6 (by decide); omega)] at hc
      simp only [Int32.reduceToInt] at hc
      omega
    rw [mH_i, u2 47 (by decide), u2 53 (by decide)]
    refine ⟨fun hc => L201 (.inr (.inr (.inr (.inl (by rw [Z_lt, s47, q47] at hc; exact hc))))), fun c47 => ⟨fun hc => L201 (.inr (.inr (.inr (.inr (by rw [Z_lt, s53, q53] at hc; exact hc))))), fun c53 => ?_⟩⟩
    rw [z_le, n30] at c30
    rw [z_lt, z_ad2 n43 e11 (by omega) (by have := bq 3 (by decide); omega)] at c43
    rw [z_lt, z_ad2 n58 e14 (by omega) (by have := bq 6 (by decide); omega)] at c58
    rw [Z_lt, s47] at c47
    rw [Z_lt, s53] at c53
    simp only [Int32.reduceToInt] at c30 c43 c58
    have E2 := fun k hk => ev v2 G2 k hk
    refine hQn w v2 h2' r4 v5 r7 v8 hl2 hw G2 z2 hF o4 o7 (fun hnr => ?_) (fG w h2' hl2) A2 (fun k hk => ?_)
    · unfold nRm at hnr
      omega
    rw [s33, E2 34 (by decide)]
    refine (hI k hk).c (φ' := fun k => va_up F (A 33) w (A k)) (ν' := v2) ?_ ?_ ?_ (fun g _ => ?_) (fun k hk => ?_)
    · exact ne33 w 31 (by decide) (by decide)
    · exact ne33 w 44 (by decide) (by decide)
    · exact ne33 w 45 (by decide) (by decide)
    · show va_up F (A 33) w (A 59) g = F (A 59) g
      rw [ne33 w 59 (by decide) (by decide)]
    · exact u2 k ((by decide : ∀ k, k ∈ [43, 46, 52, 58] → k ∉ [14, 15, 16, 17, 18]) k hk)
  have key : ∀ (nf k : Nat) (x3 : Int32) (w u : Nat → Int32) (hh : xb_H), qt (DM m) 2 - k ≤ nf → x3.toInt = k → k ≤ qt (DM m) 2 → lq mm h hh → (∀ j, j < vN v 34 → w j = F (A 33) j) → vg v u → u 17 = 0 → (∀ j, j < k → rOK (fun k => F (A k)) v DM (DM m) j (w (vN v 34 + j)).toInt) → (∀ j, j < k → 0 ≤ (w (vN v 34 + j)).toInt ∧ foS A h F DM v (DM m) mm j (w (vN v 34 + j))) → w_M_instantiate_L51 Qr (nf + 1) mm x1 x2 x3 (mH hh (va_up F (A 33) w) mm u) bc bs := by
    intro nf
    induction nf with
    | zero =>
      intro k x3 w u hh hn h3 hk hl hw gu zu hI hF
      have Au := GA w u hh hl hw gu zu
      unfold w_M_instantiate_L51
      refine ⟨fun _ => ⟨Au.B.2.1, rest w u hh hl hw gu zu (fun k hk => hI k (by omega)) (fun j hj => hF j (by omega))⟩, fun hle => ?_⟩
      rw [z_le, h2, h3] at hle
      omega
    | succ nf ih =>
      intro k x3 w u hh hn h3 hk hl hw gu zu hI hF
      have Au := GA w u hh hl hw gu zu
      unfold w_M_instantiate_L51
      refine ⟨fun hle => ⟨Au.B.2.1, rest w u hh hl hw gu zu (fun k hk => hI k ?_) (fun j hj => hF j ?_)⟩, fun hle => ⟨Au.B.2.1, ?_⟩⟩
      · rw [z_le, h2, h3] at hle
        omega
      · rw [z_le, h2, h3] at hle
        omega
      · rw [z_le, h2, h3] at hle
        have hk2 : k < qt (DM m) 2 := by omega
        have nx1 : qt (DM m) 2 - (k + 1) ≤ nf := z_mE hn (Nat.lt_succ_self k)
        have nx2 : (x3 + 1).toInt = (k + 1 : Nat) := z_inc h3 (by omega)
        refine m_found Au h1 (by rw [ev u gu 5 (by decide)]; exact hm) h3 hk2 (fun v1 h1' r20 g1 z1 l1 hr hfo _ => ⟨fun hpos => ?_, fun hneg => ?_⟩)
        · have G1 := gu.tr g1
          have u34 : v1 34 = v 34 := G1 34 (by decide) (by decide) (by decide) (by decide) (by decide)
          have hl1 := hl.tr l1
          have e34 : (v 34 + x3).toInt = (vN v 34 + k : Nat) := z_ad2 n34 h3 (by omega) (by omega)
          rw [mH_i, u34]
          refine ⟨A 33, by show xb_r h1' mm 33 = some (A 33); rw [hl1.2.2.1]; exact d1, by show xb_k h1' (A 33) = 102; rw [hl1.1]; exact d2, ?_, fun h25 e25 => ?_⟩
          · rw [z_in, e34]
            show _ ∧ _ < ((xb_n h1' (A 33) : Nat) : Int)
            rw [hl1.2.1]
            omega
          · rw [mH_AA (hB.nm (by decide)), z_cl, e34, Int.toNat_natCast] at e25
            subst e25
            refine ih (k + 1) (x3 + 1) _ v1 h1' nx1 nx2 hk2 hl1 (fun j hj => ?_) G1 z1 (fun j hj => ?_) (fun j hj => ?_)
            · rw [xh_up, if_neg (by omega)]
              exact hw j hj
            · rw [xh_up]
              by_cases h9 : j = k
              · subst h9
                rw [if_pos rfl]
                rcases hr with hr | hr
                · exfalso
                  rw [z_le] at hpos
                  simp only [Int32.reduceToInt] at hpos
                  omega
                · refine hr.c (φ' := fun k => F (A k)) (ν' := v) ?_ ?_ ?_ (fun g _ => ?_) (fun k hk => ?_)
                  · exact (ne33 w 31 (by decide) (by decide)).symm
                  · exact (ne33 w 44 (by decide) (by decide)).symm
                  · exact (ne33 w 45 (by decide) (by decide)).symm
                  · show F (A 59) g = va_up F (A 33) w (A 59) g
                    rw [ne33 w 59 (by decide) (by decide)]
                  · have qn : ∀ k, k ∈ [43, 46, 52, 58] → k ≠ 14 ∧ k ≠ 15 ∧ k ≠ 16 ∧ k ≠ 17 ∧ k ≠ 18 := by decide
                    obtain ⟨c1, c2, c3, c4, c5⟩ := qn k hk
                    exact (gu k c1 c2 c3 c4 c5).symm
              · rw [if_neg (by omega)]
                exact hI j (by omega)
            · rw [xh_up]
              by_cases h9 : j = k
              · subst h9
                rw [if_pos rfl]
                rw [z_le] at hpos
                simp only [Int32.reduceToInt] at hpos
                exact ⟨hpos, w, hh, u, hw, hl, gu, hfo⟩
              · rw [if_neg (by omega)]
                exact hF j (by omega)
        · have hl1 := hl.tr l1
          have A1 := GA w v1 h1' hl1 hw (gu.tr g1) z1
          rw [z_le] at hneg
          simp only [Int32.reduceToInt] at hneg
          exact m_refuseE A1.B (fun _ => hQi w v1 h1' r20 x3 k hl1 hw (gu.tr g1) z1 h3 hk2 hF (by omega) ⟨w, hh, u, hw, hl, gu, hfo⟩ ((fG w h1' hl1).tr (f0.aw (by rw [hB.o (by decide)]; omega))) (A1.aw (by decide) (by decide) (by decide) (by decide)))
  have := key (qt (DM m) 2) 0 0 (F (A 33)) v h (by omega) rfl (by omega) lq.rf (fun _ _ => rfl) vg.rf hA.z (fun j hj => by omega) (fun j hj => by omega)
  rw [va_id] at this
  exact ⟨_, this⟩
theorem m_inst51 {x1 x2 : Int32} (hA : rA own mm A h F v DM len rl K) (h62 : v 62 = 0) (h1 : x1.toInt = m) (hm : m < vN v 5) (h2 : x2.toInt = qt (DM m) 2) (b34 : vN v 34 + qt (DM m) 2 ≤ rl) (b2 : qt (DM m) 2 ≤ 10240) (hg : rG len rl rc rs K bc bs) (hQ : ∀ r, rQq own mm h F rc rs K (Qr r)) : ∃ n8, w_M_instantiate_L51 Qr n8 mm x1 x2 0 (mH h F mm v) bc bs :=
  m_inst51E hA h62 h1 hm h2 b34 b2 (fun w v' hh r kx k _ _ _ _ _ _ _ _ _ f a => hQ (-1) own A hh _ v' DM len rl bc bs f.z a hg) (fun w v' hh r4 y4 r7 y7 _ _ _ _ _ _ _ _ f a => hQ (-1) own A hh _ v' DM len rl bc bs f.z a hg) (fun w v' hh r4 y4 r7 y7 _ _ gu _ _ o4 o7 hn f a hI => by
    have ev : ∀ k, k ∉ [14, 15, 16, 17, 18] → v' k = v k := fun k hk => by
      have qn : ∀ j, j ∈ [14, 15, 16, 17, 18] → k ≠ j := fun j hj e => hk (e ▸ hj)
      exact gu k (qn 14 (by decide)) (qn 15 (by decide)) (qn 16 (by decide)) (qn 17 (by decide)) (qn 18 (by decide))
    have E2 : ∀ k, k ∉ [14, 15, 16, 17, 18] → vN v' k = vN v k := fun k hk => by
      unfold vN
      rw [ev k hk]
    have l4 := o4.b
    have l7 := o7.b
    unfold nRm at hn
    exact m_inst202 a (by rw [ev 62 (by decide)]; exact h62) h1 (by rw [E2 5 (by decide)]; exact hm) (by rw [E2 30 (by decide)]; omega) (by rw [E2 43 (by decide)]; omega) (by rw [E2 58 (by decide)]; omega) (by rw [E2 34 (by decide)]; exact b34) b2 l4.1 (by rw [E2 47 (by decide)]; omega) l7.1 (by rw [E2 53 (by decide)]; omega) hI hg (fun r => (hQ r).z f.z))
theorem r_instantiateE {x1 : Int32} (hA : rA own mm A h F v DM len rl (K + 1)) (hg : rG len rl rc rs (K + 1) bc bs) (hQ0 : ∀ y0 : Int32, (y0 = 1 ∧ byd (vN v 5) x1) ∨ (y0 = 2 ∧ v 62 ≠ 0 ∧ ∃ m : Nat, x1.toInt = m ∧ m < vN v 5) → rA own mm A h F (va_up v 0 y0) DM len rl K → Qr 0 (mH h F mm (va_up v 0 y0)) bc bs)
    (hQ1 : ∀ (m : Nat) (r6 : Int32) (own' A' : Nat → Nat) (h' : xb_H) (F' : Nat → Nat → Int32) (rl' bc' bs' : Nat), x1.toInt = m → m < vN v 5 → v 62 = 0 → r6.toInt = qt (DM m) 2 → qt (DM m) 2 ≤ 10240 → zT own own' h F h' F' → rvX mm A A' h h' F F' (va_up v 0 0) → rA own' mm A' h' F' (va_up v 0 0) DM len rl' K → rG len rl' rc rs K bc' bs' → vN (va_up v 0 0) 34 + qt (DM m) 2 ≤ rl' → ∃ n8, w_M_instantiate_L51 Qr n8 mm x1 r6 0 (mH h' F' mm (va_up v 0 0)) bc' bs') : w_M_instantiate mm x1 (mH h F mm v) bc bs Qr := by
  have hB := hA.B
  have L25 : ∀ y0 : Int32, ((y0 = 0 ∧ v 62 = 0 ∧ ∃ m : Nat, x1.toInt = m ∧ m < vN v 5) ∨ (y0 = 1 ∧ byd (vN v 5) x1) ∨ (y0 = 2 ∧ v 62 ≠ 0 ∧ ∃ m : Nat, x1.toInt = m ∧ m < vN v 5)) → w_M_instantiate_L25 Qr mm x1 y0 mm (mH h F mm v) bc bs := by
    intro y0 hy
    unfold w_M_instantiate_L25
    refine ⟨hB.2.1, fun h2 e2 => ?_⟩
    rw [mH_I] at e2
    subst e2
    have A0 : rA own mm A h F (va_up v 0 y0) DM len rl K := hA.dn.u (by decide)
    have ev : ∀ k, k ≠ 0 → vN (va_up v 0 y0) k = vN v k := fun k hk => by
      unfold vN
      rw [xh_up, if_neg hk]
    rw [mH_i, xh_up, if_pos rfl]
    refine ⟨hB.2.1, fun hle => ?_, fun hgt => hQ0 y0 (hy.resolve_left (fun h9 => hgt (by rw [h9.1]; decide))) A0⟩
    obtain ⟨y00, h62, m, m1, m2⟩ := hy.resolve_right (fun h9 => by
      rcases h9 with ⟨e, -⟩ | ⟨e, -⟩
      · rw [e] at hle
        exact absurd hle (by decide)
      · rw [e] at hle
        exact absurd hle (by decide))
    subst y00
    have hX := hA.X m2
    have b2 : qt (DM m) 2 ≤ 10240 := by
      obtain ⟨-, -, -, y4, -⟩ := hA.I.2.1 m m2
      have n13 := (hA.n (k := 13) (b := 10240) (by decide)).2
      rcases Nat.eq_zero_or_pos (qt (DM m) 2) with h9 | h9
      · omega
      · have := y4 2 (by decide) h9
        omega
    refine m_manyOf hX m1 (s := 2) rfl (by decide) (fun r6 e6 _ => m_reserveImports A0 hg.dn e6 b2 (fun own' A' h' F' rl' bc' bs' z' A1 g1 l34 rv _ => ?_))
    exact hQ1 m r6 own' A' h' F' rl' bc' bs' m1 m2 h62 e6 b2 z' rv A1 g1 l34
  unfold w_M_instantiate
  refine ⟨hB.2.1, m_isModule hA (fun hb _ => ⟨fun h9 => absurd rfl h9, fun _ => L25 1 (.inr (.inl ⟨rfl, hb⟩))⟩) (fun m m1 m2 _ => ⟨fun _ => ?_, fun h9 => absurd h9 (by decide)⟩)⟩
  rw [mH_i]
  exact ⟨fun h9 => L25 0 (.inl ⟨rfl, h9, m, m1, m2⟩), fun h9 => L25 2 (.inr (.inr ⟨rfl, h9, m, m1, m2⟩))⟩
theorem r_instantiate {x1 : Int32} (hA : rA own mm A h F v DM len rl (K + 1)) (hg : rG len rl rc rs (K + 1) bc bs) (hQ : ∀ r, rQq own mm h F rc rs K (Qr r)) : w_M_instantiate mm x1 (mH h F mm v) bc bs Qr :=
  r_instantiateE hA hg (fun y0 _ a => (hQ 0).elim9 hg h F _ f0.rf a) (fun m r6 own' A' h' F' rl' bc' bs' m1 m2 h62 e6 b2 z' _ A1 g1 l34 => m_inst51 A1 (by rw [xh_up, if_neg (by decide)]; exact h62) m1 (by
    have : vN (va_up v 0 0) 5 = vN v 5 := by
      unfold vN
      rw [xh_up, if_neg (by decide)]
    rw [this]
    exact m2) e6 l34 b2 g1 (fun r => (hQ r).z z'))
end MN9
