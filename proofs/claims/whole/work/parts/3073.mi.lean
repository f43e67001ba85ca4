-- a new module: its rows
/-- h2 is h and a new empty row q of c columns, its items at i -/
def nrw (h h2 : xb_H) (q i c : Nat) : Prop := xr_row h2 q c 0 i ∧ xb_n h2 i = 4 ∧ xb_k h q = 0 ∧ xb_k h i = 0 ∧ (∀ a, xb_k h a ≠ 0 → xh_sm h h2 a) ∧ xb_ext h h2
theorem sp_newRow {h : xb_H} {bc bs c q : Nat} {x : Int32} {Qr : xb_H → Nat → Nat → Prop} (hx : x.toInt = c) (hc : 2 ≤ bc) (hs : 7 ≤ bs) (hq : xb_k h q = 0) (hQ : ∀ (h2 : xb_H) (i : Nat), nrw h h2 q i c → Qr h2 (bc - 2) (bs - 7)) : w_Row_init q x (xb_new h q 2 0) (bc - 1) (bs - 3) Qr := by
  unfold w_Row_init
  refine ⟨by rw [xh_kN, if_pos rfl], fun h2 e2 => ⟨by omega, by omega, fun i hi h4 e4 h6 e6 => ?_⟩⟩
  have e1 : bc - 1 - 1 = bc - 2 := by omega
  have e3 : bs - 3 - 4 = bs - 7 := by omega
  rw [e1, e3]
  have hqi : q ≠ i := fun e => by
    rw [e2, xh_kI, xh_kN, if_pos e.symm] at hi
    cases hi
  have hi0 : xb_k h i = 0 := by
    rw [e2, xh_kI, xh_kN, if_neg (fun e => hqi e.symm)] at hi
    exact hi
  subst e2 e4 e6
  refine hQ _ i ⟨⟨?_, ?_, ?_, ?_, ?_, ?_, ?_, ?_⟩, ?_, hq, hi0, fun a ha => ?_, fun a ha => ?_⟩
  · rw [xh_kP, xh_kN, if_neg hqi, xh_kI, xh_kN, if_pos rfl]
  · rw [xh_iP, xh_iN, if_neg hqi, xh_iI, if_pos rfl, xh_up, if_pos rfl, hx]
  · rw [xh_iP, xh_iN, if_neg hqi, xh_iI, if_pos rfl, xh_up, if_neg (by omega), xh_iN, if_pos rfl]
    rfl
  · rw [xh_rP, if_pos rfl, xh_up, if_pos rfl]
  · rw [xh_kP, xh_kN, if_pos rfl]
  · omega
  · rw [xh_nP, xh_nN, if_pos rfl]
    omega
  · rw [xh_nP, xh_nN, if_pos rfl]
    omega
  · rw [xh_nP, xh_nN, if_pos rfl]
  · have haq : a ≠ q := fun e => ha (e ▸ hq)
    have hai : a ≠ i := fun e => ha (e ▸ hi0)
    exact (((xh_smN h _ _ haq).tr (xh_smI _ _ _ haq)).tr (xh_smN _ _ _ hai)).tr (xh_smP _ _ _ haq)
  · have haq : a ≠ q := fun e => ha (e ▸ hq)
    have hai : a ≠ i := fun e => ha (e ▸ hi0)
    rw [xh_kP, xh_kN, if_neg hai, xh_kI, xh_kN, if_neg haq, xh_nP, xh_nN, if_neg hai, xh_nI, xh_nN, if_neg haq]
    exact ⟨rfl, rfl⟩
/-- the first K rows of a new module -/
def mrw (h0 h : xb_H) (md K : Nat) (rw it : Nat → Nat) : Prop :=
  (∀ k, k < K → xb_r h md (k + 2) = some (rw k) ∧ xr_row h (rw k) (xr_c k) 0 (it k) ∧ xb_n h (it k) = 4 ∧ xb_k h0 (rw k) = 0 ∧ xb_k h0 (it k) = 0) ∧
  (∀ i j, i < K → j < K → rw i = rw j → i = j) ∧ (∀ i j, i < K → j < K → it i = it j → i = j) ∧ xb_k h md = 3 ∧ xb_k h0 md = 3 ∧ (∀ a, xb_k h0 a ≠ 0 → a ≠ md → xh_sm h0 h a) ∧ xb_ext h0 h ∧ xb_i h md = xb_i h0 md
theorem mrw.step {h0 h h2 : xb_H} {md K q i : Nat} {rw it : Nat → Nat} (hm : mrw h0 h md K rw it) (hn : nrw h h2 q i (xr_c K)) : mrw h0 (xb_P h2 md (K + 2) (some q)) md (K + 1) (va_up rw K q) (va_up it K i) := by
  obtain ⟨m1, m2, m3, m4, m5, m6, m7, m8⟩ := hm
  obtain ⟨⟨a1, a2, a3, a4, a5, a6, a7, a8⟩, n2, n3, n4, n5, n6⟩ := hn
  have hqm : q ≠ md := fun e => by rw [e, m4] at n3; cases n3
  have him : i ≠ md := fun e => by rw [e, m4] at n4; cases n4
  have z0 : ∀ a, xb_k h a = 0 → xb_k h0 a = 0 := fun a ha => by
    cases e : xb_k h0 a with
    | zero => rfl
    | succ c => rw [m7.k e] at ha; cases ha
  have old : ∀ k, k < K → xb_k h (rw k) ≠ 0 ∧ xb_k h (it k) ≠ 0 ∧ rw k ≠ md ∧ it k ≠ md := fun k hk => by
    obtain ⟨-, ⟨b1, b2, b3, b4, b5, -⟩, -⟩ := m1 k hk
    exact ⟨by omega, by omega, fun e => (by rw [e, m4] at b1; cases b1), fun e => (by rw [e, m4] at b5; cases b5)⟩
  refine ⟨fun k hk => ?_, fun j k hj hk e => ?_, fun j k hj hk e => ?_, ?_, m5, fun a ha h9 => ?_, m7.tr n6, ?_⟩
  · by_cases e : k = K
    · subst e
      rw [xh_up, if_pos rfl, xh_up, if_pos rfl]
      refine ⟨by rw [xh_rP, if_pos rfl, xh_up, if_pos rfl], ⟨a1, a2, a3, ?_, a5, a6, a7, a8⟩, n2, z0 _ n3, z0 _ n4⟩
      rw [xh_rP, if_neg hqm]
      exact a4
    · obtain ⟨g1, ⟨b1, b2, b3, b4, b5, b6, b7, b8⟩, g3, g4, g5⟩ := m1 k (by omega)
      obtain ⟨o1, o2, o3, o4⟩ := old k (by omega)
      have s1 := n5 (rw k) o1
      rw [xh_up, if_neg e, xh_up, if_neg e]
      refine ⟨?_, ⟨n6.k (c := 1) b1, by rw [xh_iP, s1.1]; exact b2, by rw [xh_iP, s1.1]; exact b3, ?_, n6.k (c := 102) b5, by rw [xh_nP, n6.n (c := 102) b5]; exact b6, by rw [xh_nP, n6.n (c := 102) b5]; exact b7, by rw [xh_nP, n6.n (c := 102) b5]; exact b8⟩, by rw [xh_nP, n6.n (c := 102) b5]; exact g3, g4, g5⟩
      · rw [xh_rP, if_pos rfl, xh_up, if_neg (by omega), (n5 md (by omega)).2.2]
        exact g1
      · rw [xh_rP, if_neg o3, s1.2.2]
        exact b4
  · rw [xh_up, xh_up] at e
    split at e
    · split at e
      · omega
      · exact absurd (e ▸ n3) (old k (by omega)).1
    · split at e
      · exact absurd (e.symm ▸ n3) (old j (by omega)).1
      · exact m2 j k (by omega) (by omega) e
  · rw [xh_up, xh_up] at e
    split at e
    · split at e
      · omega
      · exact absurd (e ▸ n4) (old k (by omega)).2.1
    · split at e
      · exact absurd (e.symm ▸ n4) (old j (by omega)).2.1
      · exact m3 j k (by omega) (by omega) e
  · exact n6.k (c := 2) m4
  · exact ((m6 a ha h9).tr (n5 a (fun e => ha (z0 a e)))).tr (xh_smP _ _ _ h9)
  · rw [xh_iP, (n5 md (by omega)).1]
    exact m8
set_option maxHeartbeats 4000000 in
theorem sp_StackModule_init {h : xb_H} {md cd N bc bs : Nat} {Qr : xb_H → Nat → Nat → Prop} (km : xb_k h md = 3) (kc : xb_k h cd = 100) (nc : xb_n h cd = N) (hN : N ≤ 65536) (hc : 26 ≤ bc) (hs : 88 + N ≤ bs)
    (hQ : ∀ (h' : xb_H) (rw it : Nat → Nat) (im nt : Nat), (∀ k, k < 12 → xb_r h' md (k + 2) = some (rw k) ∧ xr_row h' (rw k) (xr_c k) 0 (it k) ∧ xb_n h' (it k) = 4 ∧ xb_k h (rw k) = 0 ∧ xb_k h (it k) = 0) → (∀ i j, i < 12 → j < 12 → rw i = rw j → i = j) → (∀ i j, i < 12 → j < 12 → it i = it j → i = j) → (xb_r h' md 14 = some im ∧ xb_k h' im = 102 ∧ xb_n h' im = 4 ∧ xb_k h im = 0 ∧ xb_i h' im = fun _ => 0) → (xb_r h' md 1 = some nt ∧ xb_k h' nt = 102 ∧ xb_n h' nt = N ∧ xb_k h nt = 0 ∧ xb_i h' nt = fun _ => 0) → im ≠ nt → xb_r h' md 0 = some cd → xb_i h' md 15 = -1 → xb_i h' md 16 = -1 → xb_k h' md = 3 → (∀ a, xb_k h a ≠ 0 → a ≠ md → xh_sm h h' a) → xb_ext h h' → Qr h' (bc - 26) (bs - (88 + N))) : w_StackModule_init md cd h bc bs Qr := by
  have m0 : mrw h h md 0 (fun _ => 0) (fun _ => 0) := ⟨fun k hk => (by omega), fun i j hi => (by omega), fun i j hi => (by omega), km, km, fun a _ _ => xh_sm.rf h a, xb_ext.rf h, rfl⟩
  unfold w_StackModule_init
  refine ⟨by omega, by omega, fun q0 z0 u0 v0 => ?_⟩
  subst v0
  refine sp_newRow (c := 5) rfl (by omega) (by omega) z0 (fun t0 i0 f0 _ => ?_)
  refine ⟨f0.2.2.2.2.2.k (c := 2) km, fun g1 w1 => ?_⟩
  have m1 := m0.step f0
  rw [← w1] at m1
  clear w1 f0 m0
  refine ⟨by omega, by omega, fun q1 z1 u1 v1 => ?_⟩
  subst v1
  refine sp_newRow (c := 7) rfl (by omega) (by omega) z1 (fun t1 i1 f1 _ => ?_)
  intro g2 w2
  have m2 := m1.step f1
  rw [← w2] at m2
  clear w2 f1 m1
  refine ⟨by omega, by omega, fun q2 z2 u2 v2 => ?_⟩
  subst v2
  refine sp_newRow (c := 2) rfl (by omega) (by omega) z2 (fun t2 i2 f2 _ => ?_)
  intro g3 w3
  have m3 := m2.step f2
  rw [← w3] at m3
  clear w3 f2 m2
  refine ⟨by omega, by omega, fun q3 z3 u3 v3 => ?_⟩
  subst v3
  refine sp_newRow (c := 3) rfl (by omega) (by omega) z3 (fun t3 i3 f3 _ => ?_)
  intro g4 w4
  have m4 := m3.step f3
  rw [← w4] at m4
  clear w4 f3 m3
  refine ⟨by omega, by omega, fun q4 z4 u4 v4 => ?_⟩
  subst v4
  refine sp_newRow (c := 3) rfl (by omega) (by omega) z4 (fun t4 i4 f4 _ => ?_)
  intro g5 w5
  have m5 := m4.step f4
  rw [← w5] at m5
  clear w5 f4 m4
  refine ⟨by omega, by omega, fun q5 z5 u5 v5 => ?_⟩
  subst v5
  refine sp_newRow (c := 4) rfl (by omega) (by omega) z5 (fun t5 i5 f5 _ => ?_)
  intro g6 w6
  have m6 := m5.step f5
  rw [← w6] at m6
  clear w6 f5 m5
  refine ⟨by omega, by omega, fun q6 z6 u6 v6 => ?_⟩
  subst v6
  refine sp_newRow (c := 5) rfl (by omega) (by omega) z6 (fun t6 i6 f6 _ => ?_)
  intro g7 w7
  have m7 := m6.step f6
  rw [← w7] at m7
  clear w7 f6 m6
  refine ⟨by omega, by omega, fun q7 z7 u7 v7 => ?_⟩
  subst v7
  refine sp_newRow (c := 5) rfl (by omega) (by omega) z7 (fun t7 i7 f7 _ => ?_)
  intro g8 w8
  have m8 := m7.step f7
  rw [← w8] at m8
  clear w8 f7 m7
  refine ⟨by omega, by omega, fun q8 z8 u8 v8 => ?_⟩
  subst v8
  refine sp_newRow (c := 2) rfl (by omega) (by omega) z8 (fun t8 i8 f8 _ => ?_)
  intro g9 w9
  have m9 := m8.step f8
  rw [← w9] at m9
  clear w9 f8 m8
  refine ⟨by omega, by omega, fun q9 z9 u9 v9 => ?_⟩
  subst v9
  refine sp_newRow (c := 5) rfl (by omega) (by omega) z9 (fun t9 i9 f9 _ => ?_)
  intro g10 w10
  have m10 := m9.step f9
  rw [← w10] at m10
  clear w10 f9 m9
  refine ⟨by omega, by omega, fun q10 z10 u10 v10 => ?_⟩
  subst v10
  refine sp_newRow (c := 2) rfl (by omega) (by omega) z10 (fun t10 i10 f10 _ => ?_)
  intro g11 w11
  have m11 := m10.step f10
  rw [← w11] at m11
  clear w11 f10 m10
  refine ⟨by omega, by omega, fun q11 z11 u11 v11 => ?_⟩
  subst v11
  refine sp_newRow (c := 5) rfl (by omega) (by omega) z11 (fun t11 i11 f11 _ => ?_)
  intro g12 w12
  have m12 := m11.step f11
  rw [← w12] at m12
  clear w12 f11 m11
  refine ⟨by omega, by omega, fun im zi h75 e75 h77 e77 h78 e78 h79 e79 h80 e80 => ?_⟩
  obtain ⟨b1, b2, b3, b4, b5, b6, b7, b8⟩ := id m12
  have z0 : ∀ a, xb_k g12 a = 0 → xb_k h a = 0 := fun a ha => by
    cases e : xb_k h a with
    | zero => rfl
    | succ c => rw [b7.k e] at ha; cases ha
  have him : im ≠ md := fun e => by rw [e, b4] at zi; cases zi
  have cdm : cd ≠ md := fun e => by rw [e, km] at kc; cases kc
  have kc12 : xb_k g12 cd = 100 := b7.k (c := 99) kc
  have nc12 : xb_n g12 cd = N := by rw [b7.n (c := 99) kc]; exact nc
  have hci : cd ≠ im := fun e => by rw [← e, kc12] at zi; cases zi
  have k80 : ∀ a, xb_k h80 a = if a = im then 102 else xb_k g12 a := fun a => by rw [e80, e79, e78, e77, e75]; rfl
  have n80 : ∀ a, xb_n h80 a = if a = im then 4 else xb_n g12 a := fun a => by rw [e80, e79, e78, e77, e75]; rfl
  have nI80 : nI (xb_n h80 cd) = nI N := by rw [n80, if_neg hci, nc12]
  have cl : (nI N).toNatClampNeg = N := by rw [z_cl, z_nI (by omega)]; omega
  rw [nI80, cl]
  refine ⟨by rw [k80, if_neg hci]; exact kc12, by rw [z_lt, z_nI (by omega)]; simp, by omega, by omega, by omega, fun nt zn h83 e83 h85 e85 => ?_⟩
  have hnm : nt ≠ md := fun e => by rw [e, k80, if_neg him.symm, b4] at zn; cases zn
  have hni : nt ≠ im := fun e => by rw [e, k80, if_pos rfl] at zn; cases zn
  have zn12 : xb_k g12 nt = 0 := by rw [k80, if_neg hni] at zn; exact zn
  have hE : bc - 2 - 2 - 2 - 2 - 2 - 2 - 2 - 2 - 2 - 2 - 2 - 2 - 1 - 1 = bc - 26 := by omega
  have hE2 : bs - 7 - 7 - 7 - 7 - 7 - 7 - 7 - 7 - 7 - 7 - 7 - 7 - 4 - N = bs - (88 + N) := by omega
  have k85 : ∀ a, xb_k h85 a = if a = nt then 102 else if a = im then 102 else xb_k g12 a := fun a => by rw [e85, e83, xh_kP, xh_kN, k80]
  have n85 : ∀ a, xb_n h85 a = if a = nt then N else if a = im then 4 else xb_n g12 a := fun a => by rw [e85, e83, xh_nP, xh_nN, n80]
  have i85 : ∀ a, xb_i h85 a = if a = nt then (fun _ => 0) else if a = im then (fun _ => 0) else if a = md then va_up (va_up (xb_i g12 md) 15 (-1)) 16 (-1) else xb_i g12 a := fun a => by
    rw [e85, e83, xh_iP, xh_iN]
    split
    · rfl
    · rw [e80, xh_iP, e79, xh_iI, e78]
      by_cases h9 : a = md
      · rw [if_pos h9, if_neg (h9 ▸ him.symm), if_pos h9, xh_iI, if_pos rfl, e77, xh_iP, e75, xh_iN, if_neg him.symm]
      · rw [if_neg h9, if_neg h9, xh_iI, if_neg h9, e77, xh_iP, e75, xh_iN]
  have l85 : ∀ a, a ≠ nt → a ≠ im → xb_l h85 a = xb_l g12 a := fun a h8 h9 => by rw [e85, e83, xh_lP, xh_lN, if_neg h8, e80, xh_lP, e79, xh_lI, e78, xh_lI, e77, xh_lP, e75, xh_lN, if_neg h9]
  have r85 : ∀ a, a ≠ nt → a ≠ im → a ≠ md → xb_r h85 a = xb_r g12 a := fun a h7 h8 h9 => by rw [e85, xh_rP, if_neg h9, e83, xh_rN, if_neg h7, e80, xh_rP, if_neg h9, e79, xh_rI, e78, xh_rI, e77, xh_rP, if_neg h9, e75, xh_rN, if_neg h8]
  have rmd : xb_r h85 md = va_up (va_up (va_up (xb_r g12 md) 14 (some im)) 0 (some cd)) 1 (some nt) := by rw [e85, xh_rP, if_pos rfl, e83, xh_rN, if_neg hnm.symm, e80, xh_rP, if_pos rfl, e79, xh_rI, e78, xh_rI, e77, xh_rP, if_pos rfl, e75, xh_rN, if_neg him.symm]
  rw [hE, hE2]
  refine hQ h85 _ _ im nt (fun k hk => ?_) b2 b3 ⟨?_, ?_, ?_, z0 _ zi, ?_⟩ ⟨?_, ?_, ?_, z0 _ zn12, ?_⟩ (fun e => hni e.symm) ?_ ?_ ?_ ?_ (fun a ha h9 => ?_) (fun a ha => ?_)
  · obtain ⟨g1, ⟨c1, c2, c3, c4, c5, c6, c7, c8⟩, g3, g4, g5⟩ := b1 k hk
    have r1 : ∀ a, xb_k g12 a ≠ 0 → a ≠ nt ∧ a ≠ im := fun a ha => ⟨fun e => ha (e ▸ zn12), fun e => ha (e ▸ zi)⟩
    obtain ⟨o1, o2⟩ := r1 _ (show xb_k g12 _ ≠ 0 by rw [c1]; omega)
    obtain ⟨o3, o4⟩ := r1 _ (show xb_k g12 _ ≠ 0 by rw [c5]; omega)
    have o5 := xh_ne b4 (show xb_k g12 _ ≠ 3 by rw [c1]; omega)
    refine ⟨?_, ⟨?_, ?_, ?_, ?_, ?_, ?_, ?_, ?_⟩, ?_, g4, g5⟩
    · rw [rmd, xh_up, if_neg (by omega), xh_up, if_neg (by omega), xh_up, if_neg (by omega)]
      exact g1
    · rw [k85, if_neg o1, if_neg o2]; exact c1
    · rw [i85, if_neg o1, if_neg o2, if_neg o5]; exact c2
    · rw [i85, if_neg o1, if_neg o2, if_neg o5]; exact c3
    · rw [r85 _ o1 o2 o5]; exact c4
    · rw [k85, if_neg o3, if_neg o4]; exact c5
    · rw [n85, if_neg o3, if_neg o4]; exact c6
    · rw [n85, if_neg o3, if_neg o4]; exact c7
    · rw [n85, if_neg o3, if_neg o4]; exact c8
    · rw [n85, if_neg o3, if_neg o4]; exact g3
  · rw [rmd, xh_up, if_neg (by omega), xh_up, if_neg (by omega), xh_up, if_pos rfl]
  · rw [k85, if_neg hni.symm, if_pos rfl]
  · rw [n85, if_neg hni.symm, if_pos rfl]
  · rw [i85, if_neg hni.symm, if_pos rfl]
  · rw [rmd, xh_up, if_pos rfl]
  · rw [k85, if_pos rfl]
  · rw [n85, if_pos rfl]
  · rw [i85, if_pos rfl]
  · rw [rmd, xh_up, if_neg (by omega), xh_up, if_pos rfl]
  · rw [i85, if_neg hnm.symm, if_neg him.symm, if_pos rfl, xh_up, if_neg (by omega), xh_up, if_pos rfl]
  · rw [i85, if_neg hnm.symm, if_neg him.symm, if_pos rfl, xh_up, if_pos rfl]
  · rw [k85, if_neg hnm.symm, if_neg him.symm]; exact b4
  · have hz : xb_k g12 a ≠ 0 := fun e => ha (z0 a e)
    have o1 : a ≠ nt := fun e => hz (e ▸ zn12)
    have o2 : a ≠ im := fun e => hz (e ▸ zi)
    refine (b6 a ha h9).tr ⟨?_, l85 a o1 o2, r85 a o1 o2 h9⟩
    rw [i85, if_neg o1, if_neg o2, if_neg h9]
  · have hz : xb_k g12 a ≠ 0 := fun e => ha (z0 a e)
    have o1 : a ≠ nt := fun e => hz (e ▸ zn12)
    have o2 : a ≠ im := fun e => hz (e ▸ zi)
    rw [k85, if_neg o1, if_neg o2, n85, if_neg o1, if_neg o2]
    exact b7 a ha
