-- the reference's constructor
/-- no trap -/
def i86 (f : Nat → Int32) : Prop := f 0 = 0 ∧ f 1 = -1 ∧ f 2 = -1 ∧ f 3 = -1
/-- what a new reference holds -/
def inZ (mm : Nat) (A : Nat → Nat) (h : xb_H) : Prop := (∀ k, (∃ e ∈ aL, e.1 = k) → k ≠ 90 → k ≠ 86 → xb_i h (A k) = fun _ => 0) ∧ (∀ k, (∃ e ∈ aL, e.1 = k) → k ≠ 90 → xb_l h (A k) = fun _ => 0) ∧ i86 (xb_i h (A 86)) ∧ xb_l h mm = fun _ => 0
def inM (S : List (Nat × Nat × Nat)) (own A : Nat → Nat) (mm : Nat) (h : xb_H) (own0 : Nat → Nat) (h0 : xb_H) : Prop :=
  (own mm = 60 ∧ xb_k h mm = 9 ∧ xb_k h0 mm = 0 ∧ xb_i h mm = (fun _ => 0) ∧ xb_l h mm = fun _ => 0) ∧ (∀ e ∈ S, xb_r h mm e.1 = some (A e.1) ∧ xb_k h (A e.1) = e.2.1 ∧ own (A e.1) = 61 + e.1 ∧ xb_n h (A e.1) = e.2.2 ∧ ((e.1 ≠ 86 → xb_i h (A e.1) = fun _ => 0) ∧ xb_l h (A e.1) = (fun _ => 0) ∧ (e.1 = 86 → i86 (xb_i h (A e.1)))) ∧ xb_k h0 (A e.1) = 0 ∧ e.2.1 ≠ 0) ∧ (∀ a, xb_k h0 a ≠ 0 → own a = own0 a ∧ xh_sm h0 h a) ∧ xb_ext h0 h
section MI
variable {S : List (Nat × Nat × Nat)} {own own0 A : Nat → Nat} {mm : Nat} {h h5 h0 : xb_H}
theorem inM.add (hI : inM S own A mm h own0 h0) {q k kd n : Nat} (hq : xb_k h q = 0) (hn : ∀ e ∈ S, e.1 ≠ k) (hkd : kd ≠ 0) (ek : xb_k h5 = xb_k (xb_new h q kd n)) (en : xb_n h5 = xb_n (xb_new h q kd n)) (ei : ∀ a, a ≠ q → xb_i h5 a = xb_i h a) (el : ∀ a, a ≠ q → xb_l h5 a = xb_l h a) (er : ∀ a, a ≠ q → xb_r h5 a = xb_r (xb_P h mm k (some q)) a) (ez : (k ≠ 86 → xb_i h5 q = fun _ => 0) ∧ xb_l h5 q = (fun _ => 0) ∧ (k = 86 → i86 (xb_i h5 q))) : inM ((k, kd, n) :: S) (nown own q (61 + k)) (va_up A k q) mm h5 own0 h0 := by
  obtain ⟨⟨a1, a2, a3, a4⟩, b, c, d⟩ := hI
  have nm : mm ≠ q := fun e => by
    rw [e, hq] at a2
    omega
  have q0 : xb_k h0 q = 0 := ext_z d hq
  have ns : ∀ e ∈ S, A e.1 ≠ q := fun e he e9 => by
    obtain ⟨-, g2, -, -, -, -, g7⟩ := b e he
    rw [e9, hq] at g2
    exact g7 g2.symm
  refine ⟨⟨by rw [nown_ne nm]; exact a1, by rw [ek, xh_kN, if_neg nm]; exact a2, a3, by rw [ei mm nm]; exact a4.1, by rw [el mm nm]; exact a4.2⟩, fun e he => ?_, fun a ha => ?_, fun a ha => ?_⟩
  · rcases List.mem_cons.mp he with e9 | e9
    · rw [e9]
      dsimp only
      rw [xh_up, if_pos rfl]
      exact ⟨by rw [er mm nm, xh_rP, if_pos rfl, xh_up, if_pos rfl], by rw [ek, xh_kN, if_pos rfl], nown_eq, by rw [en, xh_nN, if_pos rfl], ez, q0, hkd⟩
    · obtain ⟨g1, g2, g3, g4, g5, g6, g7⟩ := b e e9
      have nk := hn e e9
      have nq := ns e e9
      rw [xh_up, if_neg nk]
      exact ⟨by rw [er mm nm, xh_rP, if_pos rfl, xh_up, if_neg nk]; exact g1, by rw [ek, xh_kN, if_neg nq]; exact g2, by rw [nown_ne nq]; exact g3, by rw [en, xh_nN, if_neg nq]; exact g4, ⟨fun h8 => by rw [ei _ nq]; exact g5.1 h8, by rw [el _ nq]; exact g5.2.1, fun h8 => by rw [ei _ nq]; exact g5.2.2 h8⟩, g6, g7⟩
  · have hne : a ≠ q := fun e9 => ha (e9 ▸ q0)
    have hnm : a ≠ mm := fun e9 => ha (e9 ▸ a3)
    obtain ⟨j1, j2, j3, j4⟩ := c a ha
    exact ⟨by rw [nown_ne hne]; exact j1, by rw [ei a hne]; exact j2, by rw [el a hne]; exact j3, by rw [er a hne, xh_rP, if_neg hnm]; exact j4⟩
  · have hne : a ≠ q := fun e9 => ha (e9 ▸ q0)
    rw [ek, en, xh_kN, if_neg hne, xh_nN, if_neg hne]
    exact d a ha
theorem im_b {c x y bc : Nat} (h : c + y ≤ bc) (e : x + 1 = y) : 1 ≤ bc ∧ c + x ≤ bc - 1 := by omega
theorem im_s {s t u n bs : Nat} (h : s + t ≤ bs) (e : u + n = t) : n ≤ bs ∧ s + u ≤ bs - n := by omega
theorem im_st {c s bc bs y t : Nat} {K : xb_H → Prop} (k kd n x u : Nat) (hI : inM S own A mm h own0 h0) (hb : c + y ≤ bc) (hs : s + t ≤ bs) (ex : x + 1 = y) (eu : u + n = t) (hn : ∀ e ∈ S, e.1 ≠ k) (hkd : kd ≠ 0) (h86 : k ≠ 86)
    (hK : ∀ (own' A' : Nat → Nat) (h5 : xb_H), inM ((k, kd, n) :: S) own' A' mm h5 own0 h0 → c + x ≤ bc - 1 → s + u ≤ bs - n → K h5) : 1 ≤ bc ∧ n ≤ bs ∧ ∀ q : Nat, xb_k h q = 0 → ∀ h2 : xb_H, h2 = xb_new h q kd n → ∀ h5 : xb_H, h5 = xb_P h2 mm k (some q) → K h5 := by
  refine ⟨(im_b hb ex).1, (im_s hs eu).1, fun q hq h2 e2 h5 e5 => ?_⟩
  subst e2 e5
  have nm : mm ≠ q := fun e => by
    have := hI.1.2.1
    rw [e, hq] at this
    omega
  refine hK _ _ _ (hI.add hq hn hkd rfl rfl (fun a ha => ?_) (fun a ha => ?_) (fun a ha => ?_) ⟨fun _ => ?_, ?_, fun h9 => absurd h9 h86⟩) (im_b hb ex).2 (im_s hs eu).2
  · rw [xh_iP, xh_iN, if_neg ha]
  · rw [xh_lP, xh_lN, if_neg ha]
  · rw [xh_rP, xh_rP, xh_rN, if_neg nm, xh_rN, if_neg ha]
  · rw [xh_iP, xh_iN, if_pos rfl]
  · rw [xh_lP, xh_lN, if_pos rfl]
theorem RI_z (DM : Nat → zM) : RI (fun _ _ => 0) (fun _ => 0) 2048 DM 512 := by
  have v0 : ∀ k, vN (fun _ => 0) k = 0 := fun _ => rfl
  refine ⟨⟨fun e he => ?_, ⟨rfl, rfl, rfl⟩, by rw [v0, v0]; omega, by rw [v0]; omega, by rw [v0, v0]; omega, by rw [v0, v0]; omega, by rw [v0, v0]; omega, by rw [v0, v0]; omega⟩, fun m hm => ?_, fun m hm => ?_, ⟨fun m hm => ?_, fun m hm => ?_, fun _ _ => .inl rfl, fun m hm => ?_, fun _ _ => (by show (0 : Int) ≤ (0 : Int32).toInt ∧ (0 : Int32).toInt ≤ 15; decide), fun m hm => ?_, fun m hm => ?_⟩, fun h9 => absurd rfl h9⟩
  · show 0 ≤ (0 : Int32).toInt ∧ (0 : Int32).toInt ≤ e.2
    simp only [Int32.reduceToInt]
    omega
  all_goals
    rw [v0] at hm
    omega
end MI
section MI2
variable {S : List (Nat × Nat × Nat)} {own own0 A : Nat → Nat} {mm : Nat} {h h0 : xb_H}
def sM : List (Nat × Nat × Nat) := [(89, 102, 2), (87, 103, 4096), (86, 102, 4), (80, 102, 40400), (79, 102, 40400), (78, 102, 40400), (77, 102, 40400), (75, 100, 18384), (74, 103, 18384), (73, 102, 200), (72, 102, 200), (71, 102, 200), (70, 102, 200), (69, 102, 200), (67, 103, 1000), (65, 103, 1000), (61, 103, 4096), (60, 101, 4096), (59, 102, 4096), (57, 100, 1048576), (56, 102, 384), (55, 103, 24), (54, 102, 24), (51, 102, 16384), (50, 103, 24), (49, 102, 24), (48, 102, 24), (45, 102, 8192), (44, 102, 8192), (41, 102, 4100), (40, 102, 4100), (39, 102, 4100), (38, 102, 24), (37, 102, 24), (36, 102, 24), (35, 102, 24), (33, 102, 1024), (32, 102, 24), (31, 102, 24), (28, 101, 202), (27, 102, 202), (26, 102, 202), (25, 102, 202), (24, 102, 202), (21, 100, 70000), (19, 100, 70000), (12, 102, 2048), (11, 102, 2048), (10, 102, 256), (9, 102, 768), (8, 102, 768), (7, 102, 64), (6, 102, 64), (3, 100, 16384), (1, 100, 65536)]
theorem inM.fin (hI : inM sM own A mm h own0 h0) (DM : Nat → zM) {q r : Nat} {hz : xb_H} (hq : xb_k h q = 0) (hr : xb_k (xb_new h q 10 0) r = 0) (ez : hz = xb_P (xb_I (xb_I (xb_P (xb_new (xb_new h q 10 0) r 100 4400) q 1 (some r)) q 2 1) q 3 0) mm 90 (some q)) :
    ∃ own' A', (∀ a, xb_k h0 a ≠ 0 → own' a = own0 a ∧ xh_sm h0 hz a) ∧ xb_ext h0 hz ∧ rA own' mm A' hz (xb_i hz) (fun _ => 0) DM 2048 1024 512 ∧ hz = mH hz (xb_i hz) mm (fun _ => 0) ∧ inZ mm A' hz := by
  obtain ⟨⟨a1, a2, a3, a4⟩, b, c, d⟩ := hI
  have q0 : xb_k h0 q = 0 := ext_z d hq
  have rq : r ≠ q := fun e => by
    rw [e, xh_kN, if_pos rfl] at hr
    omega
  have hr1 : xb_k h r = 0 := by
    rw [xh_kN, if_neg rq] at hr
    exact hr
  have r0 : xb_k h0 r = 0 := ext_z d hr1
  have nmq : mm ≠ q := fun e => by
    rw [e, hq] at a2
    omega
  have nmr : mm ≠ r := fun e => by
    rw [e, hr1] at a2
    omega
  have nq : ∀ e ∈ sM, A e.1 ≠ q := fun e he e9 => by
    obtain ⟨-, g2, -, -, -, -, g7⟩ := b e he
    rw [e9, hq] at g2
    exact g7 g2.symm
  have nr : ∀ e ∈ sM, A e.1 ≠ r := fun e he e9 => by
    obtain ⟨-, g2, -, -, -, -, g7⟩ := b e he
    rw [e9, hr1] at g2
    exact g7 g2.symm
  have ek : ∀ a, xb_k hz a = if a = r then 100 else if a = q then 10 else xb_k h a := fun a => by
    rw [ez, xh_kP, xh_kI, xh_kI, xh_kP, xh_kN, xh_kN]
  have en : ∀ a, xb_n hz a = if a = r then 4400 else if a = q then 0 else xb_n h a := fun a => by
    rw [ez, xh_nP, xh_nI, xh_nI, xh_nP, xh_nN, xh_nN]
  have ei : ∀ a, a ≠ q → a ≠ r → xb_i hz a = xb_i h a := fun a h1 h2 => by
    rw [ez, xh_iP, xh_iI, if_neg h1, xh_iI, if_neg h1, xh_iP, xh_iN, if_neg h2, xh_iN, if_neg h1]
  have el : ∀ a, a ≠ q → a ≠ r → xb_l hz a = xb_l h a := fun a h1 h2 => by
    rw [ez, xh_lP, xh_lI, xh_lI, xh_lP, xh_lN, if_neg h2, xh_lN, if_neg h1]
  have er : ∀ a, a ≠ q → a ≠ r → a ≠ mm → xb_r hz a = xb_r h a := fun a h1 h2 h3 => by
    rw [ez, xh_rP, if_neg h3, xh_rI, xh_rI, xh_rP, if_neg h1, xh_rN, if_neg h2, xh_rN, if_neg h1]
  have em : xb_r hz mm = va_up (xb_r h mm) 90 (some q) := by
    rw [ez, xh_rP, if_pos rfl, xh_rI, xh_rI, xh_rP, if_neg nmq, xh_rN, if_neg nmr, xh_rN, if_neg nmq]
  have eq1 : xb_r hz q 1 = some r := by
    rw [ez, xh_rP, if_neg (Ne.symm nmq), xh_rI, xh_rI, xh_rP, if_pos rfl, xh_up, if_pos rfl]
  have eqi : xb_i hz q = va_up (va_up (fun _ => 0) 2 1) 3 0 := by
    rw [ez, xh_iP, xh_iI, if_pos rfl, xh_iI, if_pos rfl, xh_iP, xh_iN, if_neg (Ne.symm rq), xh_iN, if_pos rfl]
  have eri : xb_i hz r = fun _ => 0 := by
    rw [ez, xh_iP, xh_iI, if_neg rq, xh_iI, if_neg rq, xh_iP, xh_iN, if_pos rfl]
  have emi : xb_i hz mm = fun _ => 0 := by rw [ei mm nmq nmr, a4.1]
  clear ez
  have gO : ∀ a, a ≠ q → a ≠ r → nown (nown own q 151) r 300 a = own a := fun a h1 h2 => by rw [nown_ne h2, nown_ne h1]
  have gA : ∀ k, k ≠ 90 → va_up A 90 q k = A k := fun k hk => by rw [xh_up, if_neg hk]
  have g90 : va_up A 90 q 90 = q := by rw [xh_up, if_pos rfl]
  have s9 : ∀ e ∈ sM, e.1 ≠ 90 := by decide
  have hB : mB (nown (nown own q 151) r 300) mm (va_up A 90 q) hz := by
    refine ⟨by rw [gO mm nmq nmr]; exact a1, by rw [ek, if_neg nmr, if_neg nmq]; exact a2, fun e he => ?_⟩
    have key : ∀ e ∈ aL, e = (90, 10, 0) ∨ ∃ f ∈ sM, f.1 = e.1 ∧ f.2.1 = e.2.1 ∧ (e.2.2 = 0 ∨ f.2.2 = e.2.2) := by decide
    rcases key e he with e9 | ⟨f, hf, e1, e2, e3⟩
    · rw [e9]
      show xb_r hz mm 90 = some (va_up A 90 q 90) ∧ xb_k hz (va_up A 90 q 90) = 10 ∧ nown (nown own q 151) r 300 (va_up A 90 q 90) = 61 + 90 ∧ _
      rw [g90]
      exact ⟨by rw [em, xh_up, if_pos rfl], by rw [ek, if_neg (Ne.symm rq), if_pos rfl], by rw [nown_ne (Ne.symm rq), nown_eq], .inl rfl⟩
    · have f9 := s9 f hf
      obtain ⟨g1, g2, g3, g4, -⟩ := b f hf
      have n1 := nq f hf
      have n2 := nr f hf
      rw [← e1, ← e2, gA f.1 f9, gO _ n1 n2, ek, if_neg n2, if_neg n1, en, if_neg n2, if_neg n1, em, xh_up, if_neg f9, g4]
      exact ⟨g1, g2, g3, e3⟩
  have hne : ∀ a, xb_k h0 a ≠ 0 → a ≠ q ∧ a ≠ r ∧ a ≠ mm := fun a ha => ⟨fun e => ha (e ▸ q0), fun e => ha (e ▸ r0), fun e => ha (e ▸ a3)⟩
  refine ⟨_, _, fun a ha => ?_, fun a ha => ?_, ⟨hB, ?_, ?_, ⟨r, fun _ => 0, nown_eq, ?_⟩, ?_⟩, ?_, ?_⟩
  · obtain ⟨n1, n2, n3⟩ := hne a ha
    obtain ⟨j1, j2, j3, j4⟩ := c a ha
    exact ⟨by rw [gO a n1 n2]; exact j1, by rw [ei a n1 n2]; exact j2, by rw [el a n1 n2]; exact j3, by rw [er a n1 n2 n3]; exact j4⟩
  · obtain ⟨n1, n2, n3⟩ := hne a ha
    rw [ek, en, if_neg n2, if_neg n1, if_neg n2, if_neg n1]
    exact d a ha
  · have f11 := b (11, 102, 2048) (by decide)
    have f12 := b (12, 102, 2048) (by decide)
    refine ⟨?_, ?_, .inl rfl⟩
    · rw [gA 11 (by decide), en, if_neg (nr (11, 102, 2048) (by decide)), if_neg (nq (11, 102, 2048) (by decide))]
      exact f11.2.2.2.1
    · rw [gA 12 (by decide), en, if_neg (nr (12, 102, 2048) (by decide)), if_neg (nq (12, 102, 2048) (by decide))]
      exact f12.2.2.2.1
  · have f33 := b (33, 102, 1024) (by decide)
    refine ⟨?_, by omega, by omega, Nat.zero_le _, Nat.zero_le _⟩
    rw [gA 33 (by decide), en, if_neg (nr (33, 102, 1024) (by decide)), if_neg (nq (33, 102, 1024) (by decide))]
    exact f33.2.2.2.1
  · rw [g90]
    have e1 : xb_i (mH hz (xb_i hz) mm fun _ => 0) q = xb_i hz q := mH_o (Ne.symm nmq)
    have e2 : xb_i (mH hz (xb_i hz) mm fun _ => 0) r = xb_i hz r := mH_o (Ne.symm nmr)
    refine ⟨⟨?_, eq1, ?_, ?_⟩, .inl ?_, 1, 0, ?_, ?_, by omega, by omega, fun j => ?_, fun _ _ => rfl⟩
    · show xb_k hz q = 10
      rw [ek, if_neg (Ne.symm rq), if_pos rfl]
    · show xb_k hz r = 100
      rw [ek, if_pos rfl]
    · show xb_n hz r = 4400
      rw [en, if_pos rfl]
    · rw [e1, eqi]
      rfl
    · rw [e1, eqi]
      rfl
    · rw [e1, eqi]
      rfl
    · rw [e2, eri]
      exact ⟨rfl, Nat.zero_le _⟩
  · refine (RI_z DM).cg (fun k hk => ?_) (fun _ _ => rfl)
    have key : ∀ k ∈ aRI, k ≠ 90 ∧ ∃ f ∈ sM, f.1 = k ∧ f.1 ≠ 86 := by decide
    obtain ⟨k9, f, hf, e1, e2⟩ := key k hk
    show xb_i hz (va_up A 90 q k) = _
    rw [gA k k9, ← e1, ei _ (nq f hf) (nr f hf)]
    exact (b f hf).2.2.2.2.1.1 e2
  · show hz = (xb_k hz, xb_n hz, va_up (xb_i hz) mm (fun _ => 0), xb_l hz, xb_r hz)
    have : va_up (xb_i hz) mm (fun _ => 0) = xb_i hz := by
      funext a
      rw [xh_up]
      split
      · rename_i e9
        rw [e9, emi]
      · rfl
    rw [this]
    rfl
  · have key : ∀ k, (∃ e ∈ aL, e.1 = k) → k ≠ 90 → ∃ f ∈ sM, f.1 = k := by
      intro k ⟨e, he, hk⟩ h9
      subst hk
      exact (by decide : ∀ e ∈ aL, e.1 ≠ 90 → ∃ f ∈ sM, f.1 = e.1) e he h9
    refine ⟨fun k hk k9 k8 => ?_, fun k hk k9 => ?_, ?_, by rw [el mm nmq nmr, a4.2]⟩
    · obtain ⟨f, hf, e1⟩ := key k hk k9
      rw [gA k k9, ← e1, ei _ (nq f hf) (nr f hf)]
      exact (b f hf).2.2.2.2.1.1 (by rw [e1]; exact k8)
    · obtain ⟨f, hf, e1⟩ := key k hk k9
      rw [gA k k9, ← e1, el _ (nq f hf) (nr f hf)]
      exact (b f hf).2.2.2.2.1.2.1
    · rw [gA 86 (by decide)]
      have hf : ((86, 102, 4) : Nat × Nat × Nat) ∈ sM := by decide
      have := ei (A 86) (nq _ hf) (nr _ hf)
      rw [this]
      exact (b _ hf).2.2.2.2.1.2.2 rfl
theorem m_init {c s bc bs : Nat} {Qr : xb_H → Nat → Nat → Prop} (DM : Nat → zM) (hm : xb_k h0 mm = 0) (eh : h = xb_new h0 mm 9 0) (hb0 : c + 57 ≤ bc) (hs0 : s + 1546431 ≤ bs)
    (hQ : ∀ (own' A' : Nat → Nat) (h' : xb_H) (bc' bs' : Nat), (∀ a, xb_k h0 a ≠ 0 → own' a = own0 a ∧ xh_sm h0 h' a) → xb_ext h0 h' → rA own' mm A' h' (xb_i h') (fun _ => 0) DM 2048 1024 512 → h' = mH h' (xb_i h') mm (fun _ => 0) → inZ mm A' h' → c ≤ bc' → s ≤ bs' → Qr h' bc' bs') : w_M_init mm h bc bs Qr := by
  have i0 : inM [] (nown own0 mm 60) (fun _ => 0) mm h own0 h0 := by
    have hne : ∀ a, xb_k h0 a ≠ 0 → a ≠ mm := fun a ha e => ha (e ▸ hm)
    refine ⟨⟨nown_eq, by rw [eh, xh_kN, if_pos rfl], hm, by rw [eh, xh_iN, if_pos rfl], by rw [eh, xh_lN, if_pos rfl]⟩, fun e he => absurd he (List.not_mem_nil), fun a ha => ?_, fun a ha => ?_⟩
    · have n1 := hne a ha
      exact ⟨nown_ne n1, by rw [eh, xh_iN, if_neg n1], by rw [eh, xh_lN, if_neg n1], by rw [eh, xh_rN, if_neg n1]⟩
    · have n1 := hne a ha
      rw [eh, xh_kN, xh_nN, if_neg n1, if_neg n1]
      exact ⟨rfl, rfl⟩
  unfold w_M_init
  refine ⟨(im_b hb0 (x := 56) rfl).1, (im_s hs0 (u := 1480895) (n := 65536) rfl).1, fun q hq h2 e2 => ⟨?_, ?_⟩⟩
  · rw [e2, xh_kN]
    split
    · rename_i e9
      have := i0.1.2.1
      rw [e9, hq] at this
      omega
    · exact i0.1.2.1
  refine fun h5 e5 => (im_st (K := fun h9 => h9 = h5 → _) 1 100 65536 56 1480895 i0 hb0 hs0 rfl rfl (by decide) (by decide) (by decide) (fun own1 A1 h9 i1 hb1 hs1 e9 => ?_)).2.2 q hq h2 e2 h5 e5 rfl
  subst e9
  clear i0 hb0 hs0 e5 e2 hq
  refine im_st 3 100 16384 55 1464511 i1 hb1 hs1 rfl rfl (by decide) (by decide) (by decide) (fun own2 A2 h101 i2 hb2 hs2 => ?_)
  clear i1 hb1 hs1
  refine im_st 6 102 64 54 1464447 i2 hb2 hs2 rfl rfl (by decide) (by decide) (by decide) (fun own3 A3 h102 i3 hb3 hs3 => ?_)
  clear i2 hb2 hs2
  refine im_st 7 102 64 53 1464383 i3 hb3 hs3 rfl rfl (by decide) (by decide) (by decide) (fun own4 A4 h103 i4 hb4 hs4 => ?_)
  clear i3 hb3 hs3
  refine im_st 8 102 768 52 1463615 i4 hb4 hs4 rfl rfl (by decide) (by decide) (by decide) (fun own5 A5 h104 i5 hb5 hs5 => ?_)
  clear i4 hb4 hs4
  refine im_st 9 102 768 51 1462847 i5 hb5 hs5 rfl rfl (by decide) (by decide) (by decide) (fun own6 A6 h105 i6 hb6 hs6 => ?_)
  clear i5 hb5 hs5
  refine im_st 10 102 256 50 1462591 i6 hb6 hs6 rfl rfl (by decide) (by decide) (by decide) (fun own7 A7 h106 i7 hb7 hs7 => ?_)
  clear i6 hb6 hs6
  refine im_st 11 102 2048 49 1460543 i7 hb7 hs7 rfl rfl (by decide) (by decide) (by decide) (fun own8 A8 h107 i8 hb8 hs8 => ?_)
  clear i7 hb7 hs7
  refine im_st 12 102 2048 48 1458495 i8 hb8 hs8 rfl rfl (by decide) (by decide) (by decide) (fun own9 A9 h108 i9 hb9 hs9 => ?_)
  clear i8 hb8 hs8
  refine im_st 19 100 70000 47 1388495 i9 hb9 hs9 rfl rfl (by decide) (by decide) (by decide) (fun own10 A10 h109 i10 hb10 hs10 => ?_)
  clear i9 hb9 hs9
  refine im_st 21 100 70000 46 1318495 i10 hb10 hs10 rfl rfl (by decide) (by decide) (by decide) (fun own11 A11 h110 i11 hb11 hs11 => ?_)
  clear i10 hb10 hs10
  refine im_st 24 102 202 45 1318293 i11 hb11 hs11 rfl rfl (by decide) (by decide) (by decide) (fun own12 A12 h111 i12 hb12 hs12 => ?_)
  clear i11 hb11 hs11
  refine im_st 25 102 202 44 1318091 i12 hb12 hs12 rfl rfl (by decide) (by decide) (by decide) (fun own13 A13 h112 i13 hb13 hs13 => ?_)
  clear i12 hb12 hs12
  refine im_st 26 102 202 43 1317889 i13 hb13 hs13 rfl rfl (by decide) (by decide) (by decide) (fun own14 A14 h113 i14 hb14 hs14 => ?_)
  clear i13 hb13 hs13
  refine im_st 27 102 202 42 1317687 i14 hb14 hs14 rfl rfl (by decide) (by decide) (by decide) (fun own15 A15 h114 i15 hb15 hs15 => ?_)
  clear i14 hb14 hs14
  refine im_st 28 101 202 41 1317485 i15 hb15 hs15 rfl rfl (by decide) (by decide) (by decide) (fun own16 A16 h115 i16 hb16 hs16 => ?_)
  clear i15 hb15 hs15
  refine im_st 31 102 24 40 1317461 i16 hb16 hs16 rfl rfl (by decide) (by decide) (by decide) (fun own17 A17 h116 i17 hb17 hs17 => ?_)
  clear i16 hb16 hs16
  refine im_st 32 102 24 39 1317437 i17 hb17 hs17 rfl rfl (by decide) (by decide) (by decide) (fun own18 A18 h117 i18 hb18 hs18 => ?_)
  clear i17 hb17 hs17
  refine im_st 33 102 1024 38 1316413 i18 hb18 hs18 rfl rfl (by decide) (by decide) (by decide) (fun own19 A19 h118 i19 hb19 hs19 => ?_)
  clear i18 hb18 hs18
  refine im_st 35 102 24 37 1316389 i19 hb19 hs19 rfl rfl (by decide) (by decide) (by decide) (fun own20 A20 h119 i20 hb20 hs20 => ?_)
  clear i19 hb19 hs19
  refine im_st 36 102 24 36 1316365 i20 hb20 hs20 rfl rfl (by decide) (by decide) (by decide) (fun own21 A21 h120 i21 hb21 hs21 => ?_)
  clear i20 hb20 hs20
  refine im_st 37 102 24 35 1316341 i21 hb21 hs21 rfl rfl (by decide) (by decide) (by decide) (fun own22 A22 h121 i22 hb22 hs22 => ?_)
  clear i21 hb21 hs21
  refine im_st 38 102 24 34 1316317 i22 hb22 hs22 rfl rfl (by decide) (by decide) (by decide) (fun own23 A23 h122 i23 hb23 hs23 => ?_)
  clear i22 hb22 hs22
  refine im_st 39 102 4100 33 1312217 i23 hb23 hs23 rfl rfl (by decide) (by decide) (by decide) (fun own24 A24 h123 i24 hb24 hs24 => ?_)
  clear i23 hb23 hs23
  refine im_st 40 102 4100 32 1308117 i24 hb24 hs24 rfl rfl (by decide) (by decide) (by decide) (fun own25 A25 h124 i25 hb25 hs25 => ?_)
  clear i24 hb24 hs24
  refine im_st 41 102 4100 31 1304017 i25 hb25 hs25 rfl rfl (by decide) (by decide) (by decide) (fun own26 A26 h125 i26 hb26 hs26 => ?_)
  clear i25 hb25 hs25
  refine im_st 44 102 8192 30 1295825 i26 hb26 hs26 rfl rfl (by decide) (by decide) (by decide) (fun own27 A27 h126 i27 hb27 hs27 => ?_)
  clear i26 hb26 hs26
  refine im_st 45 102 8192 29 1287633 i27 hb27 hs27 rfl rfl (by decide) (by decide) (by decide) (fun own28 A28 h127 i28 hb28 hs28 => ?_)
  clear i27 hb27 hs27
  refine im_st 48 102 24 28 1287609 i28 hb28 hs28 rfl rfl (by decide) (by decide) (by decide) (fun own29 A29 h128 i29 hb29 hs29 => ?_)
  clear i28 hb28 hs28
  refine im_st 49 102 24 27 1287585 i29 hb29 hs29 rfl rfl (by decide) (by decide) (by decide) (fun own30 A30 h129 i30 hb30 hs30 => ?_)
  clear i29 hb29 hs29
  refine im_st 50 103 24 26 1287561 i30 hb30 hs30 rfl rfl (by decide) (by decide) (by decide) (fun own31 A31 h130 i31 hb31 hs31 => ?_)
  clear i30 hb30 hs30
  refine im_st 51 102 16384 25 1271177 i31 hb31 hs31 rfl rfl (by decide) (by decide) (by decide) (fun own32 A32 h131 i32 hb32 hs32 => ?_)
  clear i31 hb31 hs31
  refine im_st 54 102 24 24 1271153 i32 hb32 hs32 rfl rfl (by decide) (by decide) (by decide) (fun own33 A33 h132 i33 hb33 hs33 => ?_)
  clear i32 hb32 hs32
  refine im_st 55 103 24 23 1271129 i33 hb33 hs33 rfl rfl (by decide) (by decide) (by decide) (fun own34 A34 h133 i34 hb34 hs34 => ?_)
  clear i33 hb33 hs33
  refine im_st 56 102 384 22 1270745 i34 hb34 hs34 rfl rfl (by decide) (by decide) (by decide) (fun own35 A35 h134 i35 hb35 hs35 => ?_)
  clear i34 hb34 hs34
  refine im_st 57 100 1048576 21 222169 i35 hb35 hs35 rfl rfl (by decide) (by decide) (by decide) (fun own36 A36 h135 i36 hb36 hs36 => ?_)
  clear i35 hb35 hs35
  refine im_st 59 102 4096 20 218073 i36 hb36 hs36 rfl rfl (by decide) (by decide) (by decide) (fun own37 A37 h136 i37 hb37 hs37 => ?_)
  clear i36 hb36 hs36
  refine im_st 60 101 4096 19 213977 i37 hb37 hs37 rfl rfl (by decide) (by decide) (by decide) (fun own38 A38 h137 i38 hb38 hs38 => ?_)
  clear i37 hb37 hs37
  refine im_st 61 103 4096 18 209881 i38 hb38 hs38 rfl rfl (by decide) (by decide) (by decide) (fun own39 A39 h138 i39 hb39 hs39 => ?_)
  clear i38 hb38 hs38
  refine im_st 65 103 1000 17 208881 i39 hb39 hs39 rfl rfl (by decide) (by decide) (by decide) (fun own40 A40 h139 i40 hb40 hs40 => ?_)
  clear i39 hb39 hs39
  refine im_st 67 103 1000 16 207881 i40 hb40 hs40 rfl rfl (by decide) (by decide) (by decide) (fun own41 A41 h140 i41 hb41 hs41 => ?_)
  clear i40 hb40 hs40
  refine im_st 69 102 200 15 207681 i41 hb41 hs41 rfl rfl (by decide) (by decide) (by decide) (fun own42 A42 h141 i42 hb42 hs42 => ?_)
  clear i41 hb41 hs41
  refine im_st 70 102 200 14 207481 i42 hb42 hs42 rfl rfl (by decide) (by decide) (by decide) (fun own43 A43 h142 i43 hb43 hs43 => ?_)
  clear i42 hb42 hs42
  refine im_st 71 102 200 13 207281 i43 hb43 hs43 rfl rfl (by decide) (by decide) (by decide) (fun own44 A44 h143 i44 hb44 hs44 => ?_)
  clear i43 hb43 hs43
  refine im_st 72 102 200 12 207081 i44 hb44 hs44 rfl rfl (by decide) (by decide) (by decide) (fun own45 A45 h144 i45 hb45 hs45 => ?_)
  clear i44 hb44 hs44
  refine im_st 73 102 200 11 206881 i45 hb45 hs45 rfl rfl (by decide) (by decide) (by decide) (fun own46 A46 h145 i46 hb46 hs46 => ?_)
  clear i45 hb45 hs45
  refine im_st 74 103 18384 10 188497 i46 hb46 hs46 rfl rfl (by decide) (by decide) (by decide) (fun own47 A47 h146 i47 hb47 hs47 => ?_)
  clear i46 hb46 hs46
  refine im_st 75 100 18384 9 170113 i47 hb47 hs47 rfl rfl (by decide) (by decide) (by decide) (fun own48 A48 h147 i48 hb48 hs48 => ?_)
  clear i47 hb47 hs47
  refine im_st 77 102 40400 8 129713 i48 hb48 hs48 rfl rfl (by decide) (by decide) (by decide) (fun own49 A49 h148 i49 hb49 hs49 => ?_)
  clear i48 hb48 hs48
  refine im_st 78 102 40400 7 89313 i49 hb49 hs49 rfl rfl (by decide) (by decide) (by decide) (fun own50 A50 h149 i50 hb50 hs50 => ?_)
  clear i49 hb49 hs49
  refine im_st 79 102 40400 6 48913 i50 hb50 hs50 rfl rfl (by decide) (by decide) (by decide) (fun own51 A51 h150 i51 hb51 hs51 => ?_)
  clear i50 hb50 hs50
  refine im_st 80 102 40400 5 8513 i51 hb51 hs51 rfl rfl (by decide) (by decide) (by decide) (fun own52 A52 h151 i52 hb52 hs52 => ?_)
  clear i51 hb51 hs51
  refine ⟨(im_b hb52 (x := 4) rfl).1, (im_s hs52 (u := 8509) (n := 4) rfl).1, fun q hq h2 e2 => ?_⟩
  have n2 : xb_n h2 q = 4 := by rw [e2, xh_nN, if_pos rfl]
  refine ⟨by rw [n2, z_in]; decide, fun h3 e3 => ⟨by rw [e3, xh_nI, n2, z_in]; decide, fun h4 e4 => ⟨by rw [e4, xh_nI, e3, xh_nI, n2, z_in]; decide, fun h5 e5 => ⟨by rw [e5, xh_nI, e4, xh_nI, e3, xh_nI, n2, z_in]; decide, fun h6 e6 h7 e7 => ?_⟩⟩⟩⟩
  have nm : mm ≠ q := fun e => by
    have := i52.1.2.1
    rw [e, hq] at this
    omega
  have i53 := i52.add (h5 := h7) (k := 86) (kd := 102) (n := 4) hq (by decide) (by decide) (by rw [e7, xh_kP, e6, xh_kI, e5, xh_kI, e4, xh_kI, e3, xh_kI, e2]) (by rw [e7, xh_nP, e6, xh_nI, e5, xh_nI, e4, xh_nI, e3, xh_nI, e2]) (fun a ha => by rw [e7, xh_iP, e6, xh_iI, if_neg ha, e5, xh_iI, if_neg ha, e4, xh_iI, if_neg ha, e3, xh_iI, if_neg ha, e2, xh_iN, if_neg ha]) (fun a ha => by rw [e7, xh_lP, e6, xh_lI, e5, xh_lI, e4, xh_lI, e3, xh_lI, e2, xh_lN, if_neg ha]) (fun a ha => by rw [e7, xh_rP, xh_rP, e6, xh_rI, e5, xh_rI, e4, xh_rI, e3, xh_rI, e2, xh_rN, if_neg nm, xh_rN, if_neg ha]) ⟨fun h9 => absurd rfl h9, by rw [e7, xh_lP, e6, xh_lI, e5, xh_lI, e4, xh_lI, e3, xh_lI, e2, xh_lN, if_pos rfl], fun _ => by rw [e7, xh_iP, e6, xh_iI, if_pos rfl, e5, xh_iI, if_pos rfl, e4, xh_iI, if_pos rfl, e3, xh_iI, if_pos rfl, e2, xh_iN, if_pos rfl]; exact ⟨rfl, rfl, rfl, rfl⟩⟩
  have hb53 := (im_b hb52 (x := 4) rfl).2
  have hs53 := (im_s hs52 (u := 8509) (n := 4) rfl).2
  clear i52 hb52 hs52 e2 e3 e4 e5 e6 e7 n2 nm hq
  refine im_st 87 103 4096 3 4413 i53 hb53 hs53 rfl rfl (by decide) (by decide) (by decide) (fun own54 A54 h153 i54 hb54 hs54 => ?_)
  clear i53 hb53 hs53
  refine im_st 89 102 2 2 4411 i54 hb54 hs54 rfl rfl (by decide) (by decide) (by decide) (fun own55 A55 h154 i55 hb55 hs55 => ?_)
  clear i54 hb54 hs54
  refine ⟨(im_b hb55 (x := 1) rfl).1, (im_s hs55 (u := 4400) (n := 11) rfl).1, fun q hq h2 e2 => ?_⟩
  have hc := (im_b hb55 (x := 1) rfl).2
  have hd := (im_s hs55 (u := 4400) (n := 11) rfl).2
  unfold w_Exact_init
  refine ⟨(im_b hc (x := 0) rfl).1, (im_s hd (u := 0) (n := 4400) rfl).1, fun r hr h3 e3 => ⟨?_, fun h4 e4 h5 e5 h6 e6 _ h7 e7 => ?_⟩⟩
  · rw [e3, xh_kN]
    split
    · rename_i e9
      rw [← e9, e2, xh_kN, if_pos rfl] at hr
      omega
    · rw [e2, xh_kN, if_pos rfl]
  · subst e2 e3 e4 e5 e6
    obtain ⟨own', A', f1, f2, f3, f4, f5⟩ := inM.fin i55 DM hq hr e7
    exact hQ own' A' h7 _ _ f1 f2 f3 f4 f5 (im_b hc (x := 0) rfl).2 (im_s hd (u := 0) (n := 4400) rfl).2
end MI2
